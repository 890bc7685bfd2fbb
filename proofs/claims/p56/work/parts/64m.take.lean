/-! CALLS ON FILES -/
theorem h_line : ∀ gh MC MR, Rel gh MC MR → ∀ p1 p2 p3, rS_line Rel gh MC MR p1 p2 p3 := fun gh C R h p1 p2 p3 => by
  obtain ⟨n, hR⟩ := h
  have hn := hR.n80
  have bad : Rel gh C (rv_u R 66 0 (nI 1)) := ⟨n, Rn_66 hR⟩
  have row : ∀ c, c < n ∨ c = 80 → (∃ (r : Int32) (MR' : rv_Mem), rv_x1 (f11_needFile gh C p2) (fun r6 => (if p3 < 0 then (some (.inr 1)) else rv_o1 (f9_lineAt gh C (nI c) p2 p3) (fun r10 => (some (.inl r10))))) = some (.inl r) ∧ rv_o1 (f12_isFile p2) (fun r2 => (if r2 = true then (if 0 ≤ p3 then rv_o2 (f12_goes R (rv_i false)) (fun r2 M3 => (if r2 = false then (some (0, M3)) else f12_line_61 M3 p2 p3 (nI c))) else f12_line_28 R p1 p2 p3) else f12_line_28 R p1 p2 p3)) = some (r, MR') ∧ MR' 66 0 = 0 ∧ Rel gh C MR') ∨ ∃ (MR' : rv_Mem) (v : Int32), rv_x1 (f11_needFile gh C p2) (fun r6 => (if p3 < 0 then (some (.inr 1)) else rv_o1 (f9_lineAt gh C (nI c) p2 p3) (fun r10 => (some (.inl r10))))) = some (.inr 1) ∧ rv_o1 (f12_isFile p2) (fun r2 => (if r2 = true then (if 0 ≤ p3 then rv_o2 (f12_goes R (rv_i false)) (fun r2 M3 => (if r2 = false then (some (0, M3)) else f12_line_61 M3 p2 p3 (nI c))) else f12_line_28 R p1 p2 p3) else f12_line_28 R p1 p2 p3)) = some (v, MR') ∧ MR' 66 0 = 1 ∧ Rel gh C MR' := by
    intro c hc
    unfold f12_line_28 f12_line_29 f12_line_42 f12_goes f12_line_61
    rcases d_file gh C p2 with ⟨f, h1, rfl, e1, e2⟩ | ⟨e1, e2⟩
    · rw [e1, e2]
      obtain ⟨s, s1, s2, s3, s4⟩ := hR.fil c hc f h1
      rcases q_any p3 with hx | ⟨p, hp, rfl⟩
      · right
        have h0 : (p3 < nI 0) = True := by simp [show p3 < nI 0 from hx]
        simp (disch := omega) only [q_no, q_no2, q_0, q_1, q_2, q_3, q_4, q_5, q_6, q_7, q_8, q_10, q_11, q_12, q_15, q_16, q_17, q_20, q_30, q_31, q_32, q_40, q_45, q_60, q_80, q_81, q_82, q_100, q_320, q_328, q_399, q_400, q_3280, q_nc, q_eq, q_lt, q_le, q_add, q_mul, q_in, q_inno, q_no_eq, q_no_eq', q_no_lt, q_lt_no, q_no_le, q_le_no, o1_some, o2_some, lt_do, x1_inl, x1_inr, x2_inl, x2_inr, if_true, if_false, if_pos, if_neg, rvi_t, rvi_f, bt_f, bf_t, bb_t, bb_f, not_true_eq_false, not_false_eq_true, q_neg0 hx, h0]
        exact ⟨rv_u R 66 0 (nI 1), nI 0, by trivial, by trivial, mu_same _ _ _ _, bad⟩
      · left
        have hz : rv_u R 66 0 (nI 0) 3 (4 * c + f) = nI s := by rw [mu_ne (by omega)]; exact s3
        by_cases hps : p < s
        · obtain ⟨v, v1, v2, v3⟩ := s4 p hps
          simp (disch := omega) only [q_no, q_no2, q_0, q_1, q_2, q_3, q_4, q_5, q_6, q_7, q_8, q_10, q_11, q_12, q_15, q_16, q_17, q_20, q_30, q_31, q_32, q_40, q_45, q_60, q_80, q_81, q_82, q_100, q_320, q_328, q_399, q_400, q_3280, q_nc, q_eq, q_lt, q_le, q_add, q_mul, q_in, q_inno, q_no_eq, q_no_eq', q_no_lt, q_lt_no, q_no_le, q_le_no, o1_some, o2_some, lt_do, x1_inl, x1_inr, x2_inl, x2_inr, if_true, if_false, if_pos, if_neg, rvi_t, rvi_f, bt_f, bf_t, bb_t, bb_f, not_true_eq_false, not_false_eq_true, s9_lineAt (gh := gh) (C := C) (c := c) (f := f) (p := p) (by omega) h1 s2 s1 hps, s12_sizeOf (M := rv_u R 66 0 (nI 0)) (c := c) (f := f) (by omega) h1, hz, s12_lineAt (M := rv_u R 66 0 (nI 0)) (c := c) (f := f) (p := p) (by rw [mu_ne (by omega)]; exact hR.h64) (by omega) h1 (by omega)]
          refine ⟨C 14 (10 * (4 * c + f) + p), rv_u R 66 0 (nI 0), rfl, ?_, mu_same _ _ _ _, ⟨n, Rn_66 hR⟩⟩
          rw [mu_ne (by omega), v2, v3]
        · simp (disch := omega) only [q_no, q_no2, q_0, q_1, q_2, q_3, q_4, q_5, q_6, q_7, q_8, q_10, q_11, q_12, q_15, q_16, q_17, q_20, q_30, q_31, q_32, q_40, q_45, q_60, q_80, q_81, q_82, q_100, q_320, q_328, q_399, q_400, q_3280, q_nc, q_eq, q_lt, q_le, q_add, q_mul, q_in, q_inno, q_no_eq, q_no_eq', q_no_lt, q_lt_no, q_no_le, q_le_no, o1_some, o2_some, lt_do, x1_inl, x1_inr, x2_inl, x2_inr, if_true, if_false, if_pos, if_neg, rvi_t, rvi_f, bt_f, bf_t, bb_t, bb_f, not_true_eq_false, not_false_eq_true, s9_lineAt_out (gh := gh) (C := C) (c := c) (f := f) (p := p) (by omega) h1 s2 s1 (by omega) hp, s12_sizeOf (M := rv_u R 66 0 (nI 0)) (c := c) (f := f) (by omega) h1, hz]
          exact ⟨NO, rv_u R 66 0 (nI 0), rfl, rfl, mu_same _ _ _ _, ⟨n, Rn_66 hR⟩⟩
    · right
      rw [e1, e2]
      simp (disch := omega) only [q_no, q_no2, q_0, q_1, q_2, q_3, q_4, q_5, q_6, q_7, q_8, q_10, q_11, q_12, q_15, q_16, q_17, q_20, q_30, q_31, q_32, q_40, q_45, q_60, q_80, q_81, q_82, q_100, q_320, q_328, q_399, q_400, q_3280, q_nc, q_eq, q_lt, q_le, q_add, q_mul, q_in, q_inno, q_no_eq, q_no_eq', q_no_lt, q_lt_no, q_no_le, q_le_no, o1_some, o2_some, lt_do, x1_inl, x1_inr, x2_inl, x2_inr, if_true, if_false, if_pos, if_neg, rvi_t, rvi_f, bt_f, bf_t, bb_t, bb_f, not_true_eq_false, not_false_eq_true]
      exact ⟨rv_u R 66 0 (nI 1), nI 0, by trivial, by trivial, mu_same _ _ _ _, bad⟩
  unfold rS_line f11_line f12_line f12_line_13 f11_needCommitOrDesk
  by_cases hx : p1 = -1
  · subst hx
    have r := row 80 (Or.inr rfl)
    simp only [not_true_eq_false, if_false, if_true, x1_inl]
    unfold f12_line_29 f12_line_42
    simp only [if_true]
    exact r
  · rw [if_neg hx, if_pos hx]
    rcases hR.dcommit p1 with ⟨m, h1, rfl, e1, e2⟩ | ⟨e1, e2⟩
    · rw [e1, e2]
      have r := row m (Or.inl h1)
      simp only [o1_some, x1_inl, if_true]
      unfold f12_line_29 f12_line_42
      simp only [if_true, if_neg hx]
      exact r
    · right
      rw [e1, e2]
      unfold f12_line_28 f12_line_29 f12_line_42 f12_goes
      simp (disch := omega) only [q_no, q_no2, q_0, q_1, q_2, q_3, q_4, q_5, q_6, q_7, q_8, q_10, q_11, q_12, q_15, q_16, q_17, q_20, q_30, q_31, q_32, q_40, q_45, q_60, q_80, q_81, q_82, q_100, q_320, q_328, q_399, q_400, q_3280, q_nc, q_eq, q_lt, q_le, q_add, q_mul, q_in, q_inno, q_no_eq, q_no_eq', q_no_lt, q_lt_no, q_no_le, q_le_no, o1_some, o2_some, lt_do, x1_inl, x1_inr, x2_inl, x2_inr, if_true, if_false, if_pos, if_neg, rvi_t, rvi_f, bt_f, bf_t, bb_t, bb_f, not_true_eq_false, not_false_eq_true]
      exact ⟨rv_u R 66 0 (nI 1), nI 0, by trivial, by trivial, mu_same _ _ _ _, bad⟩
theorem fil_row {n : Nat} {C R : rv_Mem} {gh : rC_gh} (h : Rn n gh C R) {a : Nat} (ha : a < n ∨ a = 80) : ∀ f, f < 4 → ∃ s, s ≤ 10 ∧ C 15 (4 * a + f) = nI s := fun f hf => by
  obtain ⟨s, s1, s2, -⟩ := h.fil a ha f hf
  exact ⟨s, s1, s2⟩
/-- both sides copy the commit a to the desk, with the base b -/
theorem Rn_take {n : Nat} {gh : rC_gh} {C C' R R' : rv_Mem} (h : Rn n gh C R) {a b : Nat} (ha : a < n) (hb : b < n) (hC : cpf 14 15 C C' a 80 4) (hR : cpf 4 3 R R' a 80 4) (h64 : rv_z (R' 64 0) = false) (v : Int32) : Rn n gh (rv_u (rv_u C' 17 80 (nI b)) 16 80 v) (rv_u R' 2 80 (nI b)) := by
  have hn := h.n80
  have hfil := fil_copy h.fil (Or.inl ha) hC hR
  obtain ⟨c1, c2, c3, c4⟩ := hC
  obtain ⟨r1, r2, r3, r4⟩ := hR
  refine Rn_desk h (fun k h1 h2 h3 h4 => by rw [mu_ne h3, mu_ne h4]; exact c1 k h1 h2) (fun c hc => by rw [mu_ne2 hc, mu_ne (by omega), c1 16 (by omega) (by omega)]) (fun c hc => by rw [mu_ne (by omega), mu_ne2 hc, c1 17 (by omega) (by omega)]) (fun k h0 h1 h2 h3 => by rw [mu_ne h1]; exact r1 k h3 h2) (fun c hc => by rw [mu_ne2 hc, r1 2 (by omega) (by omega)]) (fun i hi => by rw [mu_ne (by omega)]; exact r3 i (by omega)) (fun i hi => by rw [mu_ne (by omega)]; exact r2 i (by omega)) ?_ ⟨b, hb, by rw [mu_ne (by omega), mu_same], mu_same _ _ _ _⟩ (by rw [mu_ne (by omega)]; exact h64)
  intro c hc f hf
  rw [mu_ne (by omega), mu_ne (by omega), mu_ne (by omega), mu_ne (by omega), mu_ne (by omega), mu_ne (by omega)]
  exact hfil c (by omega) f hf
theorem s9_setDeskBase {gh : rC_gh} {C : rv_Mem} {b : Nat} (hb : b < 82) : f9_setDeskBase gh C (nI b) = some (rv_u C 17 80 (nI b) 16 b, rv_u (rv_u C 17 80 (nI b)) 16 80 (rv_u C 17 80 (nI b) 16 b)) := by
  unfold f9_setDeskBase f9_repositoryOf
  simp (disch := omega) only [q_no, q_no2, q_0, q_1, q_2, q_3, q_4, q_5, q_6, q_7, q_8, q_10, q_11, q_12, q_15, q_16, q_17, q_20, q_30, q_31, q_32, q_40, q_45, q_60, q_80, q_81, q_82, q_100, q_320, q_328, q_399, q_400, q_3280, q_nc, q_eq, q_lt, q_le, q_add, q_mul, q_in, q_inno, q_no_eq, q_no_eq', q_no_lt, q_lt_no, q_no_le, q_le_no, o1_some, o2_some, lt_do, x1_inl, x1_inr, x2_inl, x2_inr, if_true, if_false, if_pos, if_neg, rvi_t, rvi_f, bt_f, bf_t, bb_t, bb_f, not_true_eq_false, not_false_eq_true, s9_read (gh := gh) (C := rv_u C 17 80 (nI b)) (k := 16) (L := 82) (i := b) hb rfl rfl (by omega)]
  rw [mu_same]
theorem h_take : ∀ gh MC MR, Rel gh MC MR → ∀ p1, rS_take Rel gh MC MR p1 := fun gh C R h p1 => by
  obtain ⟨n, hR⟩ := h
  have hn := hR.n80
  unfold rS_take f11_take f12_take f12_take_14 f12_goes f11_moveDesk
  rcases hR.dcommit p1 with ⟨a, h1, rfl, e1, e2⟩ | ⟨e1, e2⟩
  · left
    rw [e1, e2]
    obtain ⟨C', g1, g2⟩ := s9_copyFiles (gh := gh) (C := C) (a := a) (b := 80) (by omega) (by omega) (by omega) (fil_row hR (Or.inl h1))
    obtain ⟨R', g3, g4⟩ := s12_copies (M := rv_u R 66 0 (nI 0)) (a := a) (b := 80) (by omega) (by omega) (by omega)
    obtain ⟨⟨r, r1, r2, r3⟩, -⟩ := hR.bas.1 a h1
    simp (disch := omega) only [q_no, q_no2, q_0, q_1, q_2, q_3, q_4, q_5, q_6, q_7, q_8, q_10, q_11, q_12, q_15, q_16, q_17, q_20, q_30, q_31, q_32, q_40, q_45, q_60, q_80, q_81, q_82, q_100, q_320, q_328, q_399, q_400, q_3280, q_nc, q_eq, q_lt, q_le, q_add, q_mul, q_in, q_inno, q_no_eq, q_no_eq', q_no_lt, q_lt_no, q_no_le, q_le_no, o1_some, o2_some, lt_do, x1_inl, x1_inr, x2_inl, x2_inr, if_true, if_false, if_pos, if_neg, rvi_t, rvi_f, bt_f, bf_t, bb_t, bb_f, not_true_eq_false, not_false_eq_true, g1, g3, s9_setDeskBase (gh := gh) (C := C') (b := a) (by omega)]
    have q16 : rv_u C' 17 80 (nI a) 16 a = nI r := by rw [mu_ne (by omega), g2.1 16 (by omega) (by omega), r2]
    have q1' : rv_u R' 2 80 (nI a) 1 a = nI r := by rw [mu_ne (by omega), g4.1 1 (by omega) (by omega), mu_ne (by omega), r3]
    refine ⟨_, _, rv_u R' 2 80 (nI a), rfl, ?_, ?_, ⟨n, ?_⟩⟩
    · rw [q16, q1']
    · rw [mu_ne (by omega), g4.1 66 (by omega) (by omega), mu_same]
    · exact Rn_take (Rn_66 (v := nI 0) hR) h1 h1 g2 g4 (by rw [g4.1 64 (by omega) (by omega), mu_ne (by omega)]; exact hR.h64) _
  · right
    rw [e1, e2]
    simp (disch := omega) only [q_no, q_no2, q_0, q_1, q_2, q_3, q_4, q_5, q_6, q_7, q_8, q_10, q_11, q_12, q_15, q_16, q_17, q_20, q_30, q_31, q_32, q_40, q_45, q_60, q_80, q_81, q_82, q_100, q_320, q_328, q_399, q_400, q_3280, q_nc, q_eq, q_lt, q_le, q_add, q_mul, q_in, q_inno, q_no_eq, q_no_eq', q_no_lt, q_lt_no, q_no_le, q_le_no, o1_some, o2_some, lt_do, x1_inl, x1_inr, x2_inl, x2_inr, if_true, if_false, if_pos, if_neg, rvi_t, rvi_f, bt_f, bf_t, bb_t, bb_f, not_true_eq_false, not_false_eq_true]
    exact ⟨C, rv_u R 66 0 (nI 1), nI 0, by trivial, by trivial, mu_same _ _ _ _, ⟨n, Rn_66 hR⟩⟩
theorem Rn.base {n : Nat} {gh : rC_gh} {C R : rv_Mem} (h : Rn n gh C R) {c : Nat} (h2 : 2 ≤ c) (hc : c < n) : ∃ b, b < c ∧ C 17 c = nI b ∧ R 2 c = nI b ∧ R 1 b = R 1 c := h.bas.2.2.1 c h2 hc
theorem h_takeSet : ∀ gh MC MR, Rel gh MC MR → ∀ p1 p2, rS_takeSet Rel gh MC MR p1 p2 := fun gh C R h p1 p2 => by
  obtain ⟨n, hR⟩ := h
  have hn := hR.n80
  unfold rS_takeSet f11_takeSet f12_takeSet f12_takeSet_15 f12_goes f11_moveDesk f9_baseOf
  have bad : Rel gh C (rv_u R 66 0 (nI 1)) := ⟨n, Rn_66 hR⟩
  rcases hR.dchange p1 with ⟨m, h1, rfl, e1, e2⟩ | ⟨e1, e2⟩
  · rw [e1]
    rcases hR.dset h1 p2 with ⟨s, a, rfl, -, -, a2, a3, -, -, -, g1, g2, g3, g4⟩ | ⟨g2, g3⟩
    · left
      rw [g3]
      obtain ⟨b, b1, b2, b3, -⟩ := hR.base a2 a3
      obtain ⟨C', c1, c2⟩ := s9_copyFiles (gh := gh) (C := C) (a := a) (b := 80) (by omega) (by omega) (by omega) (fil_row hR (Or.inl a3))
      obtain ⟨R', r1, r2⟩ := s12_copies (M := rv_u R 66 0 (nI 0)) (a := a) (b := 80) (by omega) (by omega) (by omega)
      have k0 : f12_commitAt (rv_u R 66 0 (nI 0)) (nI m) (nI s) = some (nI a) := by
        rw [s12_commitAt (n := n) (by rw [mu_ne (by omega)]; exact hR.1.2.2.1) hn, mu_ne (by omega), mu_ne (by omega), g1]
      have k1 : f12_commitAt R' (nI m) (nI s) = some (nI a) := by
        rw [s12_commitAt (n := n) (by rw [r2.1 0 (by omega) (by omega), mu_ne (by omega)]; exact hR.1.2.2.1) hn, r2.1 5 (by omega) (by omega), r2.1 6 (by omega) (by omega), mu_ne (by omega), mu_ne (by omega), g1]
      have q17 : C' 17 a = nI b := by rw [c2.1 17 (by omega) (by omega), b2]
      have q2' : R' 2 a = nI b := by rw [r2.1 2 (by omega) (by omega), mu_ne (by omega), b3]
      simp (disch := omega) only [q_no, q_no2, q_0, q_1, q_2, q_3, q_4, q_5, q_6, q_7, q_8, q_10, q_11, q_12, q_15, q_16, q_17, q_20, q_30, q_31, q_32, q_40, q_45, q_60, q_80, q_81, q_82, q_100, q_320, q_328, q_399, q_400, q_3280, q_nc, q_eq, q_lt, q_le, q_add, q_mul, q_in, q_inno, q_no_eq, q_no_eq', q_no_lt, q_lt_no, q_no_le, q_le_no, o1_some, o2_some, lt_do, x1_inl, x1_inr, x2_inl, x2_inr, if_true, if_false, if_pos, if_neg, rvi_t, rvi_f, bt_f, bf_t, bb_t, bb_f, not_true_eq_false, not_false_eq_true, g2, c1, k0, r1, k1, s9_read (gh := gh) (C := C') (k := 17) (L := 82) (i := a) (by omega) rfl rfl (by omega), q17, q2', s9_setDeskBase (gh := gh) (C := C') (b := b) (by omega)]
      refine ⟨nI b, _, rv_u R' 2 80 (nI b), rfl, ?_, ?_, ⟨n, ?_⟩⟩
      · rw [mu_same]
      · rw [mu_ne (by omega), r2.1 66 (by omega) (by omega), mu_same]
      · exact Rn_take (Rn_66 (v := nI 0) hR) a3 (by omega) c2 r2 (by rw [r2.1 64 (by omega) (by omega), mu_ne (by omega)]; exact hR.h64) _
    · right
      rw [g3]
      simp (disch := omega) only [q_no, q_no2, q_0, q_1, q_2, q_3, q_4, q_5, q_6, q_7, q_8, q_10, q_11, q_12, q_15, q_16, q_17, q_20, q_30, q_31, q_32, q_40, q_45, q_60, q_80, q_81, q_82, q_100, q_320, q_328, q_399, q_400, q_3280, q_nc, q_eq, q_lt, q_le, q_add, q_mul, q_in, q_inno, q_no_eq, q_no_eq', q_no_lt, q_lt_no, q_no_le, q_le_no, o1_some, o2_some, lt_do, x1_inl, x1_inr, x2_inl, x2_inr, if_true, if_false, if_pos, if_neg, rvi_t, rvi_f, bt_f, bf_t, bb_t, bb_f, not_true_eq_false, not_false_eq_true, g2]
      exact ⟨C, rv_u R 66 0 (nI 1), nI 0, by trivial, by trivial, mu_same _ _ _ _, bad⟩
  · right
    have e3 : f12_isSet R p1 p2 = some false := by unfold f12_isSet; rw [e2]; rfl
    rw [e1, e3]
    simp (disch := omega) only [q_no, q_no2, q_0, q_1, q_2, q_3, q_4, q_5, q_6, q_7, q_8, q_10, q_11, q_12, q_15, q_16, q_17, q_20, q_30, q_31, q_32, q_40, q_45, q_60, q_80, q_81, q_82, q_100, q_320, q_328, q_399, q_400, q_3280, q_nc, q_eq, q_lt, q_le, q_add, q_mul, q_in, q_inno, q_no_eq, q_no_eq', q_no_lt, q_lt_no, q_no_le, q_le_no, o1_some, o2_some, lt_do, x1_inl, x1_inr, x2_inl, x2_inr, if_true, if_false, if_pos, if_neg, rvi_t, rvi_f, bt_f, bf_t, bb_t, bb_f, not_true_eq_false, not_false_eq_true]
    exact ⟨C, rv_u R 66 0 (nI 1), nI 0, by trivial, by trivial, mu_same _ _ _ _, bad⟩

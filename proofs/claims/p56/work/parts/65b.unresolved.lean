/-! UNRESOLVED THREADS -/
def unS (cm : Nat) (C : rv_Mem) (r26 : Nat → Int32) (h k a : Nat) : Nat := if r26 k = nI h ∧ up (thS C k) (cm - k) k false = true then a + 1 else a
theorem Rn.unres {n : Nat} {gh : rC_gh} {C R : rv_Mem} (hR : Rn n gh C R) {h : Nat} (hh : h < gh.1 0) : ∃ v, f11_countUnresolved gh C (nI h) = some (nI v) ∧ f12_unresolvedOf R (nI h) = some (nI v) ∧ v = up (unS (gh.1 1) C (R 26) h) (gh.1 1) 0 0 := by
  have hm := hR.1.2.2.2.2.2.1
  have hM := hR.1.2.2.2.2.2.2.1
  have hc := hR.ch20
  refine ⟨_, ?_, ?_, rfl⟩
  · have L := rv_up0 (z := (fun _ _ _ => none)) (F := f11_countUnresolved_4_s gh C) (fun T k (a : Nat) => T (nI h) (nI a) (nI k)) (gh.1 1) (unS (gh.1 1) C (R 26) h) (fun a => some (nI a)) ?_ ?_ rv_FU 0 0 (Nat.zero_le _) (FU_lt (by omega))
    · exact L
    · intro T k a hk
      show f11_countUnresolved_4_s gh C T (nI h) (nI a) (nI k) = T (nI h) (nI (unS (gh.1 1) C (R 26) h k a)) (nI (k + 1))
      obtain ⟨-, -, -, -, c5, g, s, f, q, w, -, -, -, -, c6, c7, -⟩ := hR.cmt k hk
      unfold f11_countUnresolved_4_s f11_countUnresolved_47 unS
      rw [c7]
      simp (disch := omega) only [q_1, q_lt, q_in, if_pos, q_nc, is2 hk hm, c5, if_true, q_add, s11_thread hm (Nat.le_of_lt hk), o1_some, c6]
      by_cases h1 : nI g = nI h
      · by_cases h2 : up (thS C k) (gh.1 1 - k) k false = true
        · rw [if_pos h1, if_pos h2, if_pos ⟨h1, h2⟩]
        · rw [if_pos h1, if_neg h2, if_neg (fun z => h2 z.2)]
      · rw [if_neg h1, if_neg (fun z => h1 z.1)]
    · intro T a
      show f11_countUnresolved_4_s gh C T (nI h) (nI a) (nI (gh.1 1)) = _
      unfold f11_countUnresolved_4_s
      simp (disch := omega) only [q_no, q_no2, q_0, q_1, q_2, q_3, q_4, q_5, q_6, q_7, q_8, q_10, q_11, q_12, q_15, q_16, q_17, q_20, q_30, q_31, q_32, q_40, q_45, q_60, q_80, q_81, q_82, q_100, q_320, q_328, q_399, q_400, q_3280, q_nc, q_eq, q_lt, q_le, q_add, q_mul, q_in, q_inno, q_no_eq, q_no_eq', q_no_lt, q_lt_no, q_no_le, q_le_no, o1_some, o2_some, lt_do, x1_inl, x1_inr, x2_inl, x2_inr, if_true, if_false, if_pos, if_neg, rvi_t, rvi_f, bt_f, bf_t, bb_t, bb_f, not_true_eq_false, not_false_eq_true]
  · have L := rv_up0 (z := (fun _ _ _ => none)) (F := f12_unresolvedOf_4_s R) (fun T k (a : Nat) => T (nI h) (nI a) (nI k)) (gh.1 1) (unS (gh.1 1) C (R 26) h) (fun a => some (nI a)) ?_ ?_ rv_FU 0 0 (Nat.zero_le _) (FU_lt (by omega))
    · exact L
    · intro T k a hk
      show f12_unresolvedOf_4_s R T (nI h) (nI a) (nI k) = T (nI h) (nI (unS (gh.1 1) C (R 26) h k a)) (nI (k + 1))
      obtain ⟨b, b1, b2⟩ := hR.thread hk
      have eb : up (thS C k) (gh.1 1 - k) k false = b := by
        rw [s11_thread hm (Nat.le_of_lt hk)] at b1
        exact Option.some.inj b1
      have h0 : ∀ x : Nat, nI x + nI 0 = nI x := fun x => by rw [q_add]; rfl
      unfold f12_unresolvedOf_4_s f12_unresolvedOf_40 f12_unresolvedOf_41 f12_unresolvedOf_64 f12_unresolvedOf_65 unS
      rw [eb]
      have hno : (¬ NO = (-1 : Int32)) = False := by simp [q_no]
      simp (disch := omega) only [q_succ, q_lt, q_in, if_pos, q_nc, hM, q_add, rvi_t, rvi_f, h0, not_true_eq_false, if_false]
      by_cases h1 : R 26 k = nI h
      · rw [if_pos h1]
        rcases b2 with ⟨r1, r2⟩ | ⟨r1, a', r2, r3⟩
        · rw [if_neg (show ¬ R 31 k = -1 from r1), if_neg (fun z => by rw [r2] at z; exact absurd z.2 (by decide))]
        · rw [if_pos (show R 31 k = -1 from r1), r2, o1_some]
          rcases r3 with ⟨r4, r5⟩ | ⟨j, j1, r4, r5⟩
          · rw [r4, if_neg (fun z => z rfl), if_neg (fun z => by rw [r5] at z; exact absurd z.2 (by decide))]
          · have hne : ¬ nI j = -1 := by rw [q_no, q_no_eq (by omega)]; exact id
            rw [r4, if_pos hne, if_pos (q_inb (show j < 60 by omega) (by omega)), q_nc (by omega), r5]
            by_cases h3 : rv_z (R 33 j) = true
            · rw [if_pos h3, if_pos ⟨h1, h3⟩]
            · rw [if_neg h3, if_neg (fun z => h3 z.2)]
      · rw [if_neg h1, if_neg (fun z => h1 z.1)]
    · intro T a
      show f12_unresolvedOf_4_s R T (nI h) (nI a) (nI (gh.1 1)) = _
      unfold f12_unresolvedOf_4_s
      simp (disch := omega) only [q_no, q_no2, q_0, q_1, q_2, q_3, q_4, q_5, q_6, q_7, q_8, q_10, q_11, q_12, q_15, q_16, q_17, q_20, q_30, q_31, q_32, q_40, q_45, q_60, q_80, q_81, q_82, q_100, q_320, q_328, q_399, q_400, q_3280, q_nc, q_eq, q_lt, q_le, q_add, q_mul, q_in, q_inno, q_no_eq, q_no_eq', q_no_lt, q_lt_no, q_no_le, q_le_no, o1_some, o2_some, lt_do, x1_inl, x1_inr, x2_inl, x2_inr, if_true, if_false, if_pos, if_neg, rvi_t, rvi_f, bt_f, bf_t, bb_t, bb_f, not_true_eq_false, not_false_eq_true, hM]
theorem h_unresolved : ∀ gh MC MR, Rel gh MC MR → ∀ p1, rS_unresolved Rel gh MC MR p1 := fun gh C R h p1 => by
  obtain ⟨n, hR⟩ := h
  unfold rS_unresolved f11_unresolved f12_unresolved f12_asks f12_asks_14 f12_goes
  rcases hR.dchange p1 with ⟨g, hg, rfl, e1, e2⟩ | ⟨e1, e2⟩
  · left
    obtain ⟨v, v1, v2, -⟩ := (Rn_66 (v := nI 0) hR).unres hg
    rw [e1, e2]
    simp (disch := omega) only [q_no, q_no2, q_0, q_1, q_2, q_3, q_4, q_5, q_6, q_7, q_8, q_10, q_11, q_12, q_15, q_16, q_17, q_20, q_30, q_31, q_32, q_40, q_45, q_60, q_80, q_81, q_82, q_100, q_320, q_328, q_399, q_400, q_3280, q_nc, q_eq, q_lt, q_le, q_add, q_mul, q_in, q_inno, q_no_eq, q_no_eq', q_no_lt, q_lt_no, q_no_le, q_le_no, o1_some, o2_some, lt_do, x1_inl, x1_inr, x2_inl, x2_inr, if_true, if_false, if_pos, if_neg, rvi_t, rvi_f, bt_f, bf_t, bb_t, bb_f, not_true_eq_false, not_false_eq_true, v1, v2]
    exact ⟨nI v, rv_u R 66 0 (nI 0), by trivial, by trivial, mu_same _ _ _ _, ⟨n, Rn_66 hR⟩⟩
  · right
    rw [e1, e2]
    simp (disch := omega) only [q_no, q_no2, q_0, q_1, q_2, q_3, q_4, q_5, q_6, q_7, q_8, q_10, q_11, q_12, q_15, q_16, q_17, q_20, q_30, q_31, q_32, q_40, q_45, q_60, q_80, q_81, q_82, q_100, q_320, q_328, q_399, q_400, q_3280, q_nc, q_eq, q_lt, q_le, q_add, q_mul, q_in, q_inno, q_no_eq, q_no_eq', q_no_lt, q_lt_no, q_no_le, q_le_no, o1_some, o2_some, lt_do, x1_inl, x1_inr, x2_inl, x2_inr, if_true, if_false, if_pos, if_neg, rvi_t, rvi_f, bt_f, bf_t, bb_t, bb_f, not_true_eq_false, not_false_eq_true]
    exact ⟨rv_u R 66 0 (nI 1), nI 0, by trivial, by trivial, mu_same _ _ _ _, ⟨n, Rn_66 hR⟩⟩

/-! MAILS OF AN ACT -/
/-- who has how many mails, after an act of 'who' that the set S hears of (below k) -/
def mlU (m : Nat → Int32) (S who : Int32) (k p : Nat) : Int32 := if p < k ∧ p < 6 ∧ nI p ≠ who ∧ bt S p = true then m p + 1 else m p
theorem mlU_step {kl : Nat} {M0 M : rv_Mem} {S who : Int32} {k : Nat} (hk : k < 6) (h1 : ∀ q, q ≠ kl → M q = M0 q) (h2 : ∀ p, M kl p = mlU (M0 kl) S who k p) :
    ((nI k ≠ who ∧ bt S k = true) → (∀ q, q ≠ kl → rv_u M kl k (M kl k + 1) q = M0 q) ∧ ∀ p, rv_u M kl k (M kl k + 1) kl p = mlU (M0 kl) S who (k + 1) p) ∧ ((¬ (nI k ≠ who ∧ bt S k = true)) → (∀ q, q ≠ kl → rv_u M kl k (M kl k + 0) q = M0 q) ∧ ∀ p, rv_u M kl k (M kl k + 0) kl p = mlU (M0 kl) S who (k + 1) p) ∧ ((¬ (nI k ≠ who ∧ bt S k = true)) → ∀ p, M kl p = mlU (M0 kl) S who (k + 1) p) := by
  have hz : (¬ (nI k ≠ who ∧ bt S k = true)) → ∀ p, M kl p = mlU (M0 kl) S who (k + 1) p := fun hn p => by
    rw [h2 p]
    unfold mlU
    by_cases e : p = k
    · subst e
      rw [if_neg (fun z => absurd z.1 (Nat.lt_irrefl _)), if_neg (fun z => hn ⟨z.2.2.1, z.2.2.2⟩)]
    · by_cases a : p < k ∧ p < 6 ∧ nI p ≠ who ∧ bt S p = true
      · rw [if_pos a, if_pos ⟨by omega, a.2⟩]
      · rw [if_neg a, if_neg (fun z => a ⟨by omega, z.2⟩)]
  refine ⟨fun hp => ⟨fun q hq => by rw [mu_ne hq]; exact h1 q hq, fun p => ?_⟩, fun hn => ⟨fun q hq => by rw [mu_ne hq]; exact h1 q hq, fun p => ?_⟩, hz⟩
  · by_cases e : p = k
    · subst e
      rw [mu_same, h2]
      unfold mlU
      rw [if_neg (fun z => absurd z.1 (Nat.lt_irrefl _)), if_pos ⟨Nat.lt_succ_self _, hk, hp⟩]
    · rw [mu_ne2 e, h2]
      unfold mlU
      by_cases a : p < k ∧ p < 6 ∧ nI p ≠ who ∧ bt S p = true
      · rw [if_pos a, if_pos ⟨by omega, a.2⟩]
      · rw [if_neg a, if_neg (fun z => a ⟨by omega, z.2⟩)]
  · have e0 : M kl k + 0 = M kl k := Int32.add_zero _
    rw [e0]
    by_cases e : p = k
    · subst e
      rw [mu_same]
      exact hz hn p
    · rw [mu_ne2 e]
      exact hz hn p
theorem s12_tells_53 {M : rv_Mem} {h : Nat} (hh : h < 20) (who S : Int32) : ∃ M', f12_tells_53 rv_FU M (nI h) who S (nI 0) = some M' ∧ (∀ q, q ≠ 51 → q ≠ 21 → M' q = M q) ∧ (∀ p, M' 51 p = mlU (M 51) S who 6 p) ∧ M' 21 h = M 52 0 ∧ ∀ q, q ≠ h → M' 21 q = M 21 q := by
  have L := rv_ui (z := (fun _ _ _ _ _ => none)) (F := f12_tells_53_s) (fun T k M => T M (nI h) who S (nI k)) 6 (fun k M' => (∀ q, q ≠ 51 → M' q = M q) ∧ ∀ p, M' 51 p = mlU (M 51) S who k p) (fun M' => some (rv_u M' 21 h (M' 52 0))) ?_ ?_ rv_FU 0 M (Nat.zero_le _) (FU_lt (by omega)) ⟨fun _ _ => rfl, fun p => by unfold mlU; rw [if_neg (fun z => absurd z.1 (Nat.not_lt_zero _))]⟩
  · obtain ⟨M1, ⟨h1, h2⟩, h3⟩ := L
    refine ⟨rv_u M1 21 h (M1 52 0), h3, fun q q1 q2 => by rw [mu_ne q2]; exact h1 q q1, fun p => by rw [mu_ne (by omega)]; exact h2 p, by rw [mu_same, h1 52 (by omega)], fun q hq => by rw [mu_ne2 hq, h1 21 (by omega)]⟩
  · intro T k M1 hk ⟨h1, h2⟩
    obtain ⟨g1, g2, -⟩ := mlU_step (kl := 51) hk h1 h2
    by_cases hc : nI k ≠ who ∧ bt S k = true
    · refine ⟨_, g1 hc, ?_⟩
      show f12_tells_53_s T M1 (nI h) who S (nI k) = _
      unfold f12_tells_53_s f12_tells_88 f12_tells_89
      have hb : ((S >>> (nI k &&& 31)) &&& 1 = 1) = (bt S k = true) := b_test (by omega)
      simp (disch := omega) only [q_0, q_6, q_lt, q_in, if_pos, q_nc, hb, hc.2, if_true]
      rw [if_pos hc.1]
      simp (disch := omega) only [lt_do, q_1, q_add, rvi_t]
    · refine ⟨_, g2 hc, ?_⟩
      show f12_tells_53_s T M1 (nI h) who S (nI k) = _
      unfold f12_tells_53_s f12_tells_88 f12_tells_89
      have hb : ((S >>> (nI k &&& 31)) &&& 1 = 1) = (bt S k = true) := b_test (by omega)
      simp (disch := omega) only [q_6, q_lt, q_in, if_pos, q_nc, hb, lt_do]
      by_cases hw : nI k = who
      · rw [if_neg (fun z => z hw)]
        simp (disch := omega) only [q_1, q_add, rvi_f, q_0]
      · rw [if_pos hw]
        have hbf : ¬ bt S k = true := fun z => hc ⟨hw, z⟩
        simp (disch := omega) only [hbf, bf_t, if_false, q_1, q_add, rvi_f, q_0]
  · intro T M1 hI
    show f12_tells_53_s T M1 (nI h) who S (nI 6) = _
    unfold f12_tells_53_s
    simp (disch := omega) only [q_no, q_no2, q_0, q_1, q_2, q_3, q_4, q_5, q_6, q_7, q_8, q_10, q_11, q_12, q_15, q_16, q_17, q_20, q_30, q_31, q_32, q_40, q_45, q_60, q_80, q_81, q_82, q_100, q_320, q_328, q_399, q_400, q_3280, q_nc, q_eq, q_lt, q_le, q_add, q_mul, q_in, q_inno, q_no_eq, q_no_eq', q_no_lt, q_lt_no, q_no_le, q_le_no, o1_some, o2_some, lt_do, x1_inl, x1_inr, x2_inl, x2_inr, if_true, if_false, if_pos, if_neg, rvi_t, rvi_f, bt_f, bf_t, bb_t, bb_f, not_true_eq_false, not_false_eq_true]
theorem s11_noteAct_46 {gh : rC_gh} {C : rv_Mem} (who S : Int32) : ∃ C', f11_noteAct_46 gh C who S = some C' ∧ (∀ q, q ≠ 13 → C' q = C q) ∧ ∀ p, C' 13 p = mlU (C 13) S who 6 p := by
  have L := rv_ui (z := (fun _ _ _ _ => none)) (F := f11_noteAct_49_s gh) (fun T k M => T M who S (nI k)) 6 (fun k M' => (∀ q, q ≠ 13 → M' q = C q) ∧ ∀ p, M' 13 p = mlU (C 13) S who k p) some ?_ ?_ rv_FU 0 C (Nat.zero_le _) (FU_lt (by omega)) ⟨fun _ _ => rfl, fun p => by unfold mlU; rw [if_neg (fun z => absurd z.1 (Nat.not_lt_zero _))]⟩
  · obtain ⟨M1, ⟨h1, h2⟩, h3⟩ := L
    exact ⟨M1, h3, h1, h2⟩
  · intro T k M1 hk ⟨h1, h2⟩
    obtain ⟨g1, -, g3⟩ := mlU_step (kl := 13) hk h1 h2
    have hb : ((S >>> (nI k &&& 31)) &&& 1 = 1) = (bt S k = true) := b_test (by omega)
    by_cases hc : nI k ≠ who ∧ bt S k = true
    · refine ⟨_, g1 hc, ?_⟩
      show f11_noteAct_49_s gh T M1 who S (nI k) = _
      unfold f11_noteAct_49_s f11_noteAct_82 f11_isIn
      simp (disch := omega) only [q_6, q_lt, q_in, if_pos, q_nc, hb, hc.2, if_true, o1_some, lt_do]
      rw [if_pos hc.1]
      simp (disch := omega) only [q_1, q_add]
    · refine ⟨M1, ⟨h1, g3 hc⟩, ?_⟩
      show f11_noteAct_49_s gh T M1 who S (nI k) = _
      unfold f11_noteAct_49_s f11_noteAct_82 f11_isIn
      simp (disch := omega) only [q_6, q_lt, q_in, if_pos, q_nc, hb, lt_do]
      by_cases hw : nI k = who
      · rw [if_neg (fun z => z hw)]
        simp (disch := omega) only [q_1, q_add]
      · rw [if_pos hw]
        have hbf : ¬ bt S k = true := fun z => hc ⟨hw, z⟩
        simp (disch := omega) only [hbf, bf_t, if_false, o1_some, q_1, q_add]
  · intro T M1 hI
    show f11_noteAct_49_s gh T M1 who S (nI 6) = _
    unfold f11_noteAct_49_s
    simp (disch := omega) only [q_no, q_no2, q_0, q_1, q_2, q_3, q_4, q_5, q_6, q_7, q_8, q_10, q_11, q_12, q_15, q_16, q_17, q_20, q_30, q_31, q_32, q_40, q_45, q_60, q_80, q_81, q_82, q_100, q_320, q_328, q_399, q_400, q_3280, q_nc, q_eq, q_lt, q_le, q_add, q_mul, q_in, q_inno, q_no_eq, q_no_eq', q_no_lt, q_lt_no, q_no_le, q_le_no, o1_some, o2_some, lt_do, x1_inl, x1_inr, x2_inl, x2_inr, if_true, if_false, if_pos, if_neg, rvi_t, rvi_f, bt_f, bf_t, bb_t, bb_f, not_true_eq_false, not_false_eq_true]
/-- an act noted: the class -/
theorem s11_noteAct {gh : rC_gh} {C : rv_Mem} {g r : Nat} (hg : g < gh.1 0) (hc : gh.1 0 ≤ 20) (hr : r < 2) (h2 : C (100 + g) 2 = nI r) (who : Int32) : ∃ C', f11_noteAct gh C who (100 + g) = some C' ∧ (∀ k, k ≠ 13 → k ≠ 100 + g → C' k = C k) ∧ (∀ j, j ≠ 11 → C' (100 + g) j = C (100 + g) j) ∧ C' (100 + g) 11 = C 0 11 ∧ ∀ p, C' 13 p = mlU (C 13) ((C (100 + g) 9 ||| (1 <<< (C (100 + g) 1 &&& 31))) ||| (if rv_z (C (100 + g) 7) = false ∧ rv_z (C (100 + g) 6) = false then C 12 r else 0)) who 6 p := by
  have k7 : rv_u C (100 + g) 11 (C 0 11) (100 + g) 7 = C (100 + g) 7 := mu_ne2 (by omega)
  have k6 : rv_u C (100 + g) 11 (C 0 11) (100 + g) 6 = C (100 + g) 6 := mu_ne2 (by omega)
  have k2 : rv_u C (100 + g) 11 (C 0 11) (100 + g) 2 = nI r := by rw [mu_ne2 (by omega)]; exact h2
  have k9 : rv_u C (100 + g) 11 (C 0 11) (100 + g) 9 = C (100 + g) 9 := mu_ne2 (by omega)
  have k1 : rv_u C (100 + g) 11 (C 0 11) (100 + g) 1 = C (100 + g) 1 := mu_ne2 (by omega)
  have k12 : rv_u C (100 + g) 11 (C 0 11) 12 = C 12 := mu_ne (by omega)
  have k13 : rv_u C (100 + g) 11 (C 0 11) 13 = C 13 := mu_ne (by omega)
  have fin : ∀ S, ∃ C', f11_noteAct_46 gh (rv_u C (100 + g) 11 (C 0 11)) who S = some C' ∧ (∀ k, k ≠ 13 → k ≠ 100 + g → C' k = C k) ∧ (∀ j, j ≠ 11 → C' (100 + g) j = C (100 + g) j) ∧ C' (100 + g) 11 = C 0 11 ∧ ∀ p, C' 13 p = mlU (C 13) S who 6 p := fun S => by
    obtain ⟨C', c1, c2, c3⟩ := s11_noteAct_46 (gh := gh) (C := rv_u C (100 + g) 11 (C 0 11)) who S
    refine ⟨C', c1, fun k q1 q2 => by rw [c2 k q1, mu_ne q2], fun j hj => by rw [c2 _ (by omega), mu_ne2 hj], by rw [c2 _ (by omega), mu_same], fun p => by rw [c3 p, k13]⟩
  unfold f11_noteAct
  rw [if_pos (is1 hg hc)]
  show ∃ C', (if rv_z (rv_u C (100 + g) 11 (C 0 11) (100 + g) 7) = false then _ else _) = some C' ∧ _
  rw [k7, k6, k2, k9, k1, k12, if_pos (q_inb hr (by omega)), q_nc (by omega)]
  by_cases h7 : rv_z (C (100 + g) 7) = false
  · rw [if_pos h7]
    by_cases h6 : rv_z (C (100 + g) 6) = false
    · rw [if_pos h6, if_pos ⟨h7, h6⟩]
      exact fin _
    · rw [if_neg h6, if_neg (fun z => h6 z.2), Int32.or_zero]
      exact fin _
  · rw [if_neg h7, if_neg (fun z => h7 z.1), Int32.or_zero]
    exact fin _

/-! FLAGS -/
theorem Rn.rvM {n : Nat} {gh : rC_gh} {C R M : rv_Mem} (hR : Rn n gh C R) (hk : ∀ k, k ≤ 12 ∨ k = 19 ∨ (22 ≤ k ∧ k ≤ 32) → M k = R k) {h : Nat} (hh : h < gh.1 0) : f12_reviewersOf M (nI h) = some (C (100 + h) 9) := by
  have hc := hR.ch20
  obtain ⟨p, p1, -, p2⟩ := (hR.chg h hh).2.1
  have hv : ∀ c q l, c < n → q < 6 → l < 2 → ∃ v, v ≤ 5 ∧ M 22 (12 * c + 2 * q + l) = nI v := fun c q l hc hq hl => by
    rw [hk 22 (by omega)]
    rcases hR.vot.1 c l q (by have := hR.n80; omega) hl hq with ⟨h1, -⟩ | ⟨-, v, v1, v2, -, v3, -⟩
    · exact ⟨0, by omega, h1⟩
    · exact ⟨v, v2, v3⟩
  obtain ⟨x, x1, x2⟩ := s12_reviewersOf (M := M) (n := n) (cm := gh.1 1) (h := h) (by rw [hk 0 (by omega)]; exact hR.1.2.2.1) hR.n80 (by rw [hk 24 (by omega)]; exact hR.1.2.2.2.2.2.2.1) hR.1.2.2.2.2.2.1 (by omega) ⟨p, p1, by rw [hk 12 (by omega)]; exact p2⟩ (fun k hk2 => by
    obtain ⟨⟨q, q1, -, q2⟩, -⟩ := hR.cmt k hk2
    exact ⟨q, q1, by rw [hk 25 (by omega)]; exact q2⟩) hv
  rw [x1]
  congr 1
  apply b_ext
  intro i hi
  rw [x2 i hi, hR.rev h hh i hi, hk 5 (by omega), hk 12 (by omega), hk 19 (by omega), hk 22 (by omega), hk 25 (by omega), hk 26 (by omega), hk 32 (by omega)]
theorem rvz_i (b : Bool) : rv_z (rv_i b) = b := by cases b <;> rfl
theorem h_setFlags : ∀ gh MC MR, Rel gh MC MR → ∀ p1 (p2 p3 : Bool), rS_setFlags Rel gh MC MR p1 p2 p3 := fun gh C R h p1 p2 p3 => by
  obtain ⟨n, hR⟩ := h
  have hc := hR.ch20
  unfold rS_setFlags
  have bad : ∀ v, Rel gh C (rv_u R 66 0 v) := fun v => ⟨n, Rn_66 hR⟩
  rcases hR.dchange p1 with ⟨g, hg, rfl, e1, e2⟩ | ⟨e1, e2⟩
  · have hg20 : g < 20 := by omega
    obtain ⟨a1, a2, a3, ⟨s, s1, s2, s3⟩, a5, a6, a7, a8, a9⟩ := hR.chg g hg
    by_cases h0 : s = 0
    · subst h0
      left
      -- the class
      have hcls : ∃ C', f11_setFlags gh C (nI g) p2 p3 = some (.inl (rv_i (rv_z (R 15 g)) + (if rv_z (R 16 g) = true then 2 else 0), C')) ∧ (∀ k, k ≠ 100 + g → C' k = C k) ∧ (∀ j, j ≠ 6 → j ≠ 7 → j ≠ 10 → C' (100 + g) j = C (100 + g) j) ∧ C' (100 + g) 6 = rv_i p2 ∧ C' (100 + g) 7 = rv_i p3 ∧ C' (100 + g) 10 = (if p2 = true then 0 else if rv_z (R 15 g) = true then C (100 + g) 10 ||| C (100 + g) 9 else C (100 + g) 10) := by
        unfold f11_setFlags f11_setFlags_38 f11_setFlags_51 f11_setFlags_90
        rw [e1]
        have hs : ¬ ¬ C (100 + g) 5 = 0 := fun z => z s2
        simp only [x2_inl, is1 hg hc, if_true, if_neg hs, ← a5, ← a6, lt_do]
        cases h6 : rv_z (C (100 + g) 6) <;> cases h7 : rv_z (C (100 + g) 7) <;> cases p2 <;> simp only [bt_f, bf_t, if_true, if_false] <;> refine ⟨_, rfl, fun k hk => by simp only [mu_ne hk], fun j j1 j2 j3 => by simp only [mu_ne2 j1, mu_ne2 j2, mu_ne2 j3], by simp only [mu_same, mu_ne2 (show (6 : Nat) ≠ 7 by omega), mu_ne2 (show (10 : Nat) ≠ 7 by omega), mu_ne2 (show (10 : Nat) ≠ 6 by omega), mu_ne2 (show (9 : Nat) ≠ 10 by omega)], by simp only [mu_same, mu_ne2 (show (6 : Nat) ≠ 7 by omega), mu_ne2 (show (10 : Nat) ≠ 7 by omega), mu_ne2 (show (10 : Nat) ≠ 6 by omega), mu_ne2 (show (9 : Nat) ≠ 10 by omega)], by simp only [mu_same, mu_ne2 (show (6 : Nat) ≠ 7 by omega), mu_ne2 (show (10 : Nat) ≠ 7 by omega), mu_ne2 (show (10 : Nat) ≠ 6 by omega), mu_ne2 (show (9 : Nat) ≠ 10 by omega)]⟩
      -- the reference
      have href : f12_setFlags R (nI g) p2 p3 = some (rv_i (rv_z (R 15 g)) + (if rv_z (R 16 g) = true then 2 else 0), rv_u (rv_u (rv_u (rv_u (rv_u R 66 0 0) 20 g (if p2 = true then 0 else R 20 g)) 15 g (rv_i p2)) 16 g (rv_i p3)) 20 g (gvT 0 (rv_i p2) (if p2 = true then 0 else R 20 g) (if rv_z (R 15 g) = true ∧ p2 = false then C (100 + g) 9 else 0))) := by
        unfold f12_setFlags f12_setFlags_27 f12_goes f12_setFlags_49 f12_setFlags_63 f12_setFlags_83 f12_setFlags_84 f12_setFlags_105 f12_setFlags_136
        rw [e2]
        have hin : rv_in (nI g) 20 = true := q_inb hg20 (by omega)
        have hs : R 13 g = 0 := s3
        have hrv : ∀ t : Int32, f12_reviewersOf (rv_u (rv_u (rv_u (rv_u R 66 0 0) 20 g t) 15 g (rv_i p2)) 16 g (rv_i p3)) (nI g) = some (C (100 + g) 9) := fun t => hR.rvM (fun k hk => by rw [mu_ne (by omega), mu_ne (by omega), mu_ne (by omega), mu_ne (by omega)]) hg
        have hgv : ∀ t x : Int32, f12_givesTurns (rv_u (rv_u (rv_u (rv_u R 66 0 0) 20 g t) 15 g (rv_i p2)) 16 g (rv_i p3)) (nI g) x = some (rv_u (rv_u (rv_u (rv_u (rv_u R 66 0 0) 20 g t) 15 g (rv_i p2)) 16 g (rv_i p3)) 20 g (gvT 0 (rv_i p2) t x)) := fun t x => by
          rw [s12_givesTurns hg20]
          rw [mu_ne (show 13 ≠ 16 by omega), mu_ne (show 13 ≠ 15 by omega), mu_ne (show 13 ≠ 20 by omega), mu_ne (show 13 ≠ 66 by omega), mu_ne (show 15 ≠ 16 by omega), mu_same, mu_ne (show 20 ≠ 16 by omega), mu_ne (show 20 ≠ 15 by omega), mu_same, hs]
        have k15 : rv_u R 66 0 0 15 = R 15 := mu_ne (by omega)
        have k16 : rv_u R 66 0 0 16 = R 16 := mu_ne (by omega)
        have k20 : rv_u R 66 0 0 20 = R 20 := mu_ne (by omega)
        simp only [o1_some, bt_f, if_false, hin, if_true, q_nc (show g < 2147483648 by omega), hs, lt_do, o2_some, k15, k16, k20]
        cases h6 : rv_z (R 15 g) <;> cases h7 : rv_z (R 16 g) <;> cases h2 : p2 <;> subst h2 <;> simp only [bt_f, bf_t, if_true, if_false, hrv, hgv, o1_some, false_and, and_false, and_true, true_and]
      obtain ⟨C', c1, c2, c3, c4, c5, c6⟩ := hcls
      refine ⟨_, C', _, c1, href, by rw [mu_ne (by omega), mu_ne (by omega), mu_ne (by omega), mu_ne (by omega), mu_same], n, ?_⟩
      have v : ∀ j, j ≠ 15 → j ≠ 16 → j ≠ 20 → j ≠ 66 → rv_u (rv_u (rv_u (rv_u (rv_u R 66 0 0) 20 g (if p2 = true then 0 else R 20 g)) 15 g (rv_i p2)) 16 g (rv_i p3)) 20 g (gvT 0 (rv_i p2) (if p2 = true then 0 else R 20 g) (if rv_z (R 15 g) = true ∧ p2 = false then C (100 + g) 9 else 0)) j = R j := fun j h1 h2 h3 h4 => by rw [mu_ne h3, mu_ne h2, mu_ne h1, mu_ne h3, mu_ne h4]
      refine Rn_ch1 hR hg (fun k _ hk => c2 k hk) (c3 4 (by omega) (by omega) (by omega)) (fun k hk => v k (by omega) (by omega) (by omega) (by omega)) (fun k q hk hq => by rw [mu_ne2 hq, mu_ne2 hq, mu_ne2 hq, mu_ne2 hq, mu_ne (by omega)]) (by rw [v 64 (by omega) (by omega) (by omega) (by omega)]; exact hR.h64) ?_ (fun z => by rw [v 13 (by omega) (by omega) (by omega) (by omega)]; exact z) ?_ ?_
      · unfold chg1
        rw [c3 0 (by omega) (by omega) (by omega), c3 1 (by omega) (by omega) (by omega), c3 2 (by omega) (by omega) (by omega), c3 5 (by omega) (by omega) (by omega), c3 8 (by omega) (by omega) (by omega), c3 11 (by omega) (by omega) (by omega), c3 12 (by omega) (by omega) (by omega), c4, c5, c6, v 12 (by omega) (by omega) (by omega) (by omega), v 5 (by omega) (by omega) (by omega) (by omega), v 1 (by omega) (by omega) (by omega) (by omega), v 13 (by omega) (by omega) (by omega) (by omega), v 18 (by omega) (by omega) (by omega) (by omega), v 17 (by omega) (by omega) (by omega) (by omega), v 21 (by omega) (by omega) (by omega) (by omega), v 52 (by omega) (by omega) (by omega) (by omega), mu_same]
        refine ⟨a1, a2, a3, ⟨0, s1, s2, s3⟩, ?_, ?_, a7, ?_, a9⟩
        · rw [mu_ne (show 15 ≠ 20 by omega), mu_ne (show 15 ≠ 16 by omega), mu_same]
        · rw [mu_ne (show 16 ≠ 20 by omega), mu_same]
        · unfold gvT
          rw [rvz_i, a8]
          cases p2 <;> cases h6 : rv_z (R 15 g) <;> simp
      · intro i hi
        rw [c3 9 (by omega) (by omega) (by omega), v 5 (by omega) (by omega) (by omega) (by omega), v 12 (by omega) (by omega) (by omega) (by omega), v 19 (by omega) (by omega) (by omega) (by omega), v 22 (by omega) (by omega) (by omega) (by omega), v 25 (by omega) (by omega) (by omega) (by omega), v 26 (by omega) (by omega) (by omega) (by omega), v 32 (by omega) (by omega) (by omega) (by omega)]
        exact hR.rev g hg i hi
      · intro q hq
        rw [c2 13 (by omega), v 51 (by omega) (by omega) (by omega) (by omega)]
        exact hR.mis.2.1 q hq
    · right; right
      unfold f11_setFlags f12_setFlags f12_setFlags_27 f12_goes
      rw [e1, e2]
      simp (disch := omega) only [q_no, q_no2, q_0, q_1, q_2, q_3, q_4, q_5, q_6, q_7, q_8, q_10, q_11, q_12, q_15, q_16, q_17, q_20, q_30, q_31, q_32, q_40, q_45, q_60, q_80, q_81, q_82, q_100, q_320, q_328, q_399, q_400, q_3280, q_nc, q_eq, q_lt, q_le, q_add, q_mul, q_in, q_inno, q_no_eq, q_no_eq', q_no_lt, q_lt_no, q_no_le, q_le_no, o1_some, o2_some, lt_do, x1_inl, x1_inr, x2_inl, x2_inr, if_true, if_false, if_pos, if_neg, rvi_t, rvi_f, bt_f, bf_t, bb_t, bb_f, not_true_eq_false, not_false_eq_true, is1 hg hc, s2, s3]
      exact ⟨C, rv_u R 66 0 (nI 2), nI 0, by trivial, by trivial, mu_same _ _ _ _, bad _⟩
  · right; left
    unfold f11_setFlags f12_setFlags f12_setFlags_27 f12_goes
    rw [e1, e2]
    simp (disch := omega) only [q_no, q_no2, q_0, q_1, q_2, q_3, q_4, q_5, q_6, q_7, q_8, q_10, q_11, q_12, q_15, q_16, q_17, q_20, q_30, q_31, q_32, q_40, q_45, q_60, q_80, q_81, q_82, q_100, q_320, q_328, q_399, q_400, q_3280, q_nc, q_eq, q_lt, q_le, q_add, q_mul, q_in, q_inno, q_no_eq, q_no_eq', q_no_lt, q_lt_no, q_no_le, q_le_no, o1_some, o2_some, lt_do, x1_inl, x1_inr, x2_inl, x2_inr, if_true, if_false, if_pos, if_neg, rvi_t, rvi_f, bt_f, bf_t, bb_t, bb_f, not_true_eq_false, not_false_eq_true]
    exact ⟨C, rv_u R 66 0 (nI 1), nI 0, by trivial, by trivial, mu_same _ _ _ _, bad _⟩

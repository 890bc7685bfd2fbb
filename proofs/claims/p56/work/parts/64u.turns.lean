/-! TURNS ARE GIVEN -/
def gvT (s w t x : Int32) : Int32 := if s = 0 ∧ rv_z w = false then t ||| x else t
theorem s0_giveTurns {gh : rC_gh} {C : rv_Mem} {g : Nat} (hg : g < gh.1 0) (hc : gh.1 0 ≤ 20) (x : Int32) : ∃ C', f0_giveTurns gh C (100 + g) x = some C' ∧ (∀ k, k ≠ 100 + g → C' k = C k) ∧ (∀ j, j ≠ 10 → C' (100 + g) j = C (100 + g) j) ∧ C' (100 + g) 10 = gvT (C (100 + g) 5) (C (100 + g) 6) (C (100 + g) 10) x := by
  unfold f0_giveTurns gvT
  rw [if_pos (is1 hg hc)]
  by_cases h5 : C (100 + g) 5 = 0
  · by_cases h6 : rv_z (C (100 + g) 6) = false
    · refine ⟨rv_u C (100 + g) 10 (C (100 + g) 10 ||| x), ?_, fun k hk => mu_ne hk, fun j hj => mu_ne2 hj, ?_⟩
      · rw [if_pos h5, if_pos h6]; rfl
      · rw [mu_same, if_pos ⟨h5, h6⟩]
    · refine ⟨C, ?_, fun _ _ => rfl, fun _ _ => rfl, ?_⟩
      · rw [if_pos h5, if_neg h6]
      · rw [if_neg (fun z => h6 z.2)]
  · refine ⟨C, ?_, fun _ _ => rfl, fun _ _ => rfl, ?_⟩
    · rw [if_neg h5]
    · rw [if_neg (fun z => h5 z.1)]
theorem s12_givesTurns {R : rv_Mem} {g : Nat} (hg : g < 20) (x : Int32) : f12_givesTurns R (nI g) x = some (rv_u R 20 g (gvT (R 13 g) (R 15 g) (R 20 g) x)) := by
  unfold f12_givesTurns f12_givesTurns_29 f12_givesTurns_30 gvT
  simp only [q_inb hg (show g < 2147483648 by omega), q_nc (show g < 2147483648 by omega), if_true]
  by_cases h5 : R 13 g = 0
  · rw [if_pos h5]
    by_cases h6 : rv_z (R 15 g) = false
    · rw [if_pos h6, if_pos ⟨h5, h6⟩]
      rfl
    · rw [if_neg h6, if_neg (fun z => h6 z.2)]
      show some (rv_u R 20 g (R 20 g ||| 0)) = _
      rw [Int32.or_zero]
  · rw [if_neg h5, if_neg (fun z => h5 z.1)]
    show some (rv_u R 20 g (R 20 g ||| 0)) = _
    rw [Int32.or_zero]
theorem gvT_cong {s w w' t x : Int32} (h : rv_z w = rv_z w') : gvT s w t x = gvT s w' t x := by unfold gvT; rw [h]
theorem h_addReviewer : ∀ gh MC MR, Rel gh MC MR → ∀ p1 p2, rS_addReviewer Rel gh MC MR p1 p2 := fun gh C R h p1 p2 => by
  obtain ⟨n, hR⟩ := h
  have hc := hR.ch20
  unfold rS_addReviewer f11_addReviewer f12_addReviewer
  have bad : ∀ v, Rel gh C (rv_u R 66 0 v) := fun v => ⟨n, Rn_66 hR⟩
  have bad2 : ∀ v w, Rel gh C (rv_u (rv_u R 66 0 v) 66 0 w) := fun v w => ⟨n, Rn_66 (Rn_66 hR)⟩
  rcases hR.dwrong p1 p2 with ⟨p, g, hp, hg, rfl, rfl, e1, e2, e3⟩ | ⟨e1, e2⟩
  · rw [e1, e3]
    obtain ⟨a1, ⟨o, o1, o2, o3⟩, a3, ⟨s, s1, s2, s3⟩, a5, a6, a7, a8, a9⟩ := hR.chg g hg
    have t13 : rv_u R 66 0 (nI 0) 13 g = nI s := by rw [mu_ne (by omega)]; exact s3
    have t12 : rv_u R 66 0 (nI 0) 12 g = nI o := by rw [mu_ne (by omega)]; exact o3
    unfold f12_addReviewer_33 f12_addReviewer_38 f12_goes f11_isIn f12_isOf
    by_cases h0 : s = 0
    · subst h0
      by_cases ho : o = p
      · subst ho
        right; right
        simp (disch := omega) only [q_no, q_no2, q_0, q_2, q_3, q_4, q_5, q_6, q_7, q_8, q_10, q_11, q_12, q_15, q_16, q_17, q_20, q_30, q_32, q_40, q_45, q_60, q_80, q_81, q_82, q_100, q_320, q_328, q_399, q_400, q_3280, q_nc, q_eq, q_lt, q_le, q_add, q_mul, q_in, q_inno, q_no_eq, q_no_eq', q_no_lt, q_lt_no, q_no_le, q_le_no, o1_some, o2_some, lt_do, x1_inl, x1_inr, x2_inl, x2_inr, if_true, if_false, if_pos, if_neg, rvi_t, rvi_f, bt_f, bf_t, bb_t, bb_f, not_true_eq_false, not_false_eq_true, e2, is1 hg hc, s2, t13, o2, t12]
        exact ⟨C, rv_u (rv_u R 66 0 (nI 0)) 66 0 (nI 2), false, by trivial, by trivial, mu_same _ _ _ _, bad2 _ _⟩
      · left
        have hv := (Rn_66 (v := nI 0) (Rn_66 (v := nI 0) hR)).rv hg
        have goodC : ∀ w : Bool, ∃ C', f11_addReviewer_52 gh C (nI p) (100 + g) w = some (.inl (w, C')) ∧ Rel gh C' (rv_u (rv_u (rv_u (rv_u R 66 0 (nI 0)) 66 0 (nI 0)) 19 g (R 19 g ||| (1 <<< (nI p &&& 31)))) 20 g (gvT (R 13 g) (R 15 g) (R 20 g) (1 <<< (nI p &&& 31)))) := by
          intro w
          obtain ⟨C', c1, c2, c3, c4⟩ := s0_giveTurns (gh := gh) (C := rv_u C (100 + g) 9 (C (100 + g) 9 ||| (1 <<< (nI p &&& 31)))) hg hc (1 <<< (nI p &&& 31))
          refine ⟨C', ?_, n, ?_⟩
          · unfold f11_addReviewer_52
            rw [if_pos (is1 hg hc)]
            show rv_o1 (f0_giveTurns gh (rv_u C (100 + g) 9 (C (100 + g) 9 ||| (1 <<< (nI p &&& 31)))) (100 + g) (1 <<< (nI p &&& 31))) _ = _
            rw [c1]; rfl
          · have c3' : ∀ j, j ≠ 9 → j ≠ 10 → C' (100 + g) j = C (100 + g) j := fun j h9 h10 => by rw [c3 j h10, mu_ne2 h9]
            have v : ∀ j, j ≠ 19 → j ≠ 20 → j ≠ 66 → rv_u (rv_u (rv_u (rv_u R 66 0 (nI 0)) 66 0 (nI 0)) 19 g (R 19 g ||| (1 <<< (nI p &&& 31)))) 20 g (gvT (R 13 g) (R 15 g) (R 20 g) (1 <<< (nI p &&& 31))) j = R j := fun j h1 h2 h3 => by rw [mu_ne h2, mu_ne h1, mu_ne h3, mu_ne h3]
            refine Rn_ch1 hR hg (fun k _ hk => by rw [c2 k hk, mu_ne hk]) (c3' 4 (by omega) (by omega)) (fun k hk => v k (by omega) (by omega) (by omega)) (fun k q hk hq => by rw [mu_ne2 hq, mu_ne2 hq, mu_ne (by omega), mu_ne (by omega)]) (by rw [v 64 (by omega) (by omega) (by omega)]; exact hR.h64) ?_ (fun z => by rw [v 13 (by omega) (by omega) (by omega)]; exact z) ?_ ?_
            · unfold chg1
              rw [c3' 0 (by omega) (by omega), c3' 1 (by omega) (by omega), c3' 2 (by omega) (by omega), c3' 5 (by omega) (by omega), c3' 6 (by omega) (by omega), c3' 7 (by omega) (by omega), c3' 8 (by omega) (by omega), c3' 11 (by omega) (by omega), c3' 12 (by omega) (by omega), c4, v 12 (by omega) (by omega) (by omega), v 5 (by omega) (by omega) (by omega), v 1 (by omega) (by omega) (by omega), v 13 (by omega) (by omega) (by omega), v 18 (by omega) (by omega) (by omega), v 15 (by omega) (by omega) (by omega), v 16 (by omega) (by omega) (by omega), v 17 (by omega) (by omega) (by omega), v 21 (by omega) (by omega) (by omega), v 52 (by omega) (by omega) (by omega), mu_same]
              refine ⟨a1, ⟨o, o1, o2, o3⟩, a3, ⟨0, s1, s2, s3⟩, a5, a6, a7, ?_, a9⟩
              rw [mu_ne2 (by omega), mu_ne2 (by omega), mu_ne2 (by omega), gvT_cong a5, a8, s2, s3]
            · intro i hi
              rw [c3 9 (by omega), mu_same, b_or, b_shl1 p (by omega) i hi, hR.rev g hg i hi, v 5 (by omega) (by omega) (by omega), v 12 (by omega) (by omega) (by omega), v 22 (by omega) (by omega) (by omega), v 25 (by omega) (by omega) (by omega), v 26 (by omega) (by omega) (by omega), v 32 (by omega) (by omega) (by omega), mu_ne (show 19 ≠ 20 by omega)]
              unfold revB
              rw [mu_same, b_or, b_shl1 p (by omega) i hi]
              by_cases ei : i = p
              · subst ei
                have : decide (R 12 g = nI i) = false := by
                  rw [o3]
                  exact decide_eq_false (by rw [q_eq (by omega) (by omega)]; exact ho)
                rw [this]
                simp
              · rw [decide_eq_false ei]
                simp
            · intro q hq
              rw [c2 13 (by omega), mu_ne (by omega), v 51 (by omega) (by omega) (by omega)]
              exact hR.mis.2.1 q hq
        have t19 : rv_u (rv_u R 66 0 (nI 0)) 66 0 (nI 0) 19 g = R 19 g := by rw [mu_ne (by omega), mu_ne (by omega)]
        simp (disch := omega) only [q_no, q_no2, q_0, q_2, q_3, q_4, q_5, q_6, q_7, q_8, q_10, q_11, q_12, q_15, q_16, q_17, q_20, q_30, q_32, q_40, q_45, q_60, q_80, q_81, q_82, q_100, q_320, q_328, q_399, q_400, q_3280, q_nc, q_eq, q_lt, q_le, q_add, q_mul, q_in, q_inno, q_no_eq, q_no_eq', q_no_lt, q_lt_no, q_no_le, q_le_no, o1_some, o2_some, lt_do, x1_inl, x1_inr, x2_inl, x2_inr, if_true, if_false, if_pos, if_neg, rvi_t, rvi_f, bt_f, bf_t, bb_t, bb_f, not_true_eq_false, not_false_eq_true, e2, is1 hg hc, s2, t13, o2, t12, hv, t19, s12_givesTurns]
        have u : ∀ j, j ≠ 19 → j ≠ 66 → rv_u (rv_u (rv_u R 66 0 (nI 0)) 66 0 (nI 0)) 19 g (R 19 g ||| (1 <<< (nI p &&& 31))) j = R j := fun j h1 h3 => by rw [mu_ne h1, mu_ne h3, mu_ne h3]
        rw [u 13 (by omega) (by omega), u 15 (by omega) (by omega), u 20 (by omega) (by omega)]
        by_cases hb : (C (100 + g) 9 >>> (nI p &&& 31)) &&& 1 = 1
        · obtain ⟨C', g1, g2⟩ := goodC false
          simp only [if_pos hb, o1_some, bt_f, if_false, g1]
          exact ⟨false, C', _, by trivial, rfl, by rw [mu_ne (by omega), mu_ne (by omega), mu_same], g2⟩
        · obtain ⟨C', g1, g2⟩ := goodC true
          simp only [if_neg hb, o1_some, if_true, g1]
          exact ⟨true, C', _, by trivial, rfl, by rw [mu_ne (by omega), mu_ne (by omega), mu_same], g2⟩
    · right; right
      simp (disch := omega) only [q_no, q_no2, q_0, q_2, q_3, q_4, q_5, q_6, q_7, q_8, q_10, q_11, q_12, q_15, q_16, q_17, q_20, q_30, q_32, q_40, q_45, q_60, q_80, q_81, q_82, q_100, q_320, q_328, q_399, q_400, q_3280, q_nc, q_eq, q_lt, q_le, q_add, q_mul, q_in, q_inno, q_no_eq, q_no_eq', q_no_lt, q_lt_no, q_no_le, q_le_no, o1_some, o2_some, lt_do, x1_inl, x1_inr, x2_inl, x2_inr, if_true, if_false, if_pos, if_neg, rvi_t, rvi_f, bt_f, bf_t, bb_t, bb_f, not_true_eq_false, not_false_eq_true, e2, is1 hg hc, s2, t13]
      exact ⟨C, rv_u (rv_u R 66 0 (nI 0)) 66 0 (nI 2), false, by trivial, by trivial, mu_same _ _ _ _, bad2 _ _⟩
  · right; left
    rw [e2]
    unfold f12_goes
    rcases e1 with e1 | ⟨e1, e3⟩
    · simp (disch := omega) only [q_no, q_no2, q_0, q_1, q_2, q_3, q_4, q_5, q_6, q_7, q_8, q_10, q_11, q_12, q_15, q_16, q_17, q_20, q_30, q_31, q_32, q_40, q_45, q_60, q_80, q_81, q_82, q_100, q_320, q_328, q_399, q_400, q_3280, q_nc, q_eq, q_lt, q_le, q_add, q_mul, q_in, q_inno, q_no_eq, q_no_eq', q_no_lt, q_lt_no, q_no_le, q_le_no, o1_some, o2_some, lt_do, x1_inl, x1_inr, x2_inl, x2_inr, if_true, if_false, if_pos, if_neg, rvi_t, rvi_f, bt_f, bf_t, bb_t, bb_f, not_true_eq_false, not_false_eq_true, e1]
      exact ⟨C, rv_u R 66 0 (nI 1), false, by trivial, by trivial, mu_same _ _ _ _, bad _⟩
    · simp (disch := omega) only [q_no, q_no2, q_0, q_1, q_2, q_3, q_4, q_5, q_6, q_7, q_8, q_10, q_11, q_12, q_15, q_16, q_17, q_20, q_30, q_31, q_32, q_40, q_45, q_60, q_80, q_81, q_82, q_100, q_320, q_328, q_399, q_400, q_3280, q_nc, q_eq, q_lt, q_le, q_add, q_mul, q_in, q_inno, q_no_eq, q_no_eq', q_no_lt, q_lt_no, q_no_le, q_le_no, o1_some, o2_some, lt_do, x1_inl, x1_inr, x2_inl, x2_inr, if_true, if_false, if_pos, if_neg, rvi_t, rvi_f, bt_f, bf_t, bb_t, bb_f, not_true_eq_false, not_false_eq_true, e1, e3]
      exact ⟨C, rv_u R 66 0 (nI 1), false, by trivial, by trivial, mu_same _ _ _ _, bad _⟩

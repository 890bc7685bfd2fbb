/-! ONE CHANGE'S FIELDS -/
def chg1 (n h : Nat) (cr : Nat → Int32) (R : rv_Mem) : Prop := cr 0 = nI h ∧ (∃ p, p < 6 ∧ cr 1 = nI p ∧ R 12 h = nI p) ∧
  (∃ r, r < 2 ∧ cr 2 = nI r ∧ (∀ c, c < n → R 5 c = nI h → R 1 c = nI r) ∧ (R 13 h = nI 1 → ∃ c, c < n ∧ cr 12 = nI c ∧ R 18 h = nI c ∧ (R 5 c = NO ∨ R 5 c = nI h) ∧ R 1 c = nI r)) ∧
  (∃ s, s < 3 ∧ cr 5 = nI s ∧ R 13 h = nI s) ∧ rv_z (cr 6) = rv_z (R 15 h) ∧ rv_z (cr 7) = rv_z (R 16 h) ∧
  (cr 8 = R 17 h ∧ (R 17 h = NO ∨ ∃ t, t < 4 ∧ R 17 h = nI t)) ∧ cr 10 = R 20 h ∧
  ∃ d, d ≤ (R 52 0).toNatClampNeg ∧ R 21 h = nI d ∧ (R 13 h ≠ nI 2 → cr 11 = nI d)
theorem chg_iff {n ch : Nat} {C R : rv_Mem} : A_chg n ch C R = ∀ h, h < ch → chg1 n h (C (100 + h)) R := rfl
theorem chg1_cong {n h : Nat} {cr : Nat → Int32} {R R' : rv_Mem} (h5 : R' 5 = R 5) (h1 : R' 1 = R 1) (h52 : R' 52 = R 52) (hk : ∀ k, 12 ≤ k → k ≤ 21 → R' k h = R k h) (a : chg1 n h cr R) : chg1 n h cr R' := by
  unfold chg1 at a ⊢
  rw [h5, h1, h52, hk 12 (by omega) (by omega), hk 13 (by omega) (by omega), hk 18 (by omega) (by omega), hk 15 (by omega) (by omega), hk 16 (by omega) (by omega), hk 17 (by omega) (by omega), hk 20 (by omega) (by omega), hk 21 (by omega) (by omega)]
  exact a
/-- writes to one change: what is owed -/
theorem Rn_ch1 {n : Nat} {gh : rC_gh} {C C' R R' : rv_Mem} (h : Rn n gh C R) {g : Nat} (hg : g < gh.1 0) (hC : ∀ k, k ≠ 13 → k ≠ 100 + g → C' k = C k) (h4 : C' (100 + g) 4 = C (100 + g) 4) (hR : ∀ k, k ≤ 12 ∨ k = 14 ∨ (22 ≤ k ∧ k ≤ 50) ∨ k = 52 → R' k = R k) (hq : ∀ k q, k ≤ 21 → q ≠ g → R' k q = R k q) (h64 : rv_z (R' 64 0) = false)
    (one : chg1 n g (C' (100 + g)) R') (h13 : R 13 g = nI 1 → R' 13 g = nI 1) (rev : ∀ i, i < 32 → bt (C' (100 + g) 9) i = revB n (gh.1 1) (R' 5) (R' 12) (R' 19) (R' 22) (R' 25) (R' 26) (R' 32) g i) (mis : ∀ p, p < 6 → C' 13 p = R' 51 p) : Rn n gh C' R' := by
  have hc := h.ch20
  refine Rn_fld h hg hC h4 hR h64 ?_ ?_ (par_fld hR (fun q z => ?_) h.par) ?_ ?_
  · rw [chg_iff]
    intro q hq2
    by_cases e : q = g
    · subst e; exact one
    · rw [hC _ (by omega) (by omega)]
      exact chg1_cong (hR 5 (by omega)) (hR 1 (by omega)) (hR 52 (by omega)) (fun k _ hk => hq k q hk e) (h.chg q hq2)
  · intro q h1 h2
    rw [hq 15 q (by omega) (by omega), hq 16 q (by omega) (by omega), hq 19 q (by omega) (by omega), hq 20 q (by omega) (by omega)]
    exact h.nw q h1 h2
  · by_cases e : q = g
    · subst e; exact h13 z
    · rw [hq 13 q (by omega) e]; exact z
  · intro q hq2 i hi
    by_cases e : q = g
    · subst e; exact rev i hi
    · rw [hC _ (by omega) (by omega)]
      have a := h.rev q hq2 i hi
      unfold revB at a ⊢
      rw [hR 5 (by omega), hR 12 (by omega), hq 19 q (by omega) e, hR 22 (by omega), hR 25 (by omega), hR 26 (by omega), hR 32 (by omega)]
      exact a
  · obtain ⟨m1, m2, m3⟩ := h.mis
    have e12 : C' 12 = C 12 := hC _ (by omega) (by omega)
    have e0 : C' 0 = C 0 := hC _ (by omega) (by omega)
    refine ⟨fun r hr => by rw [e12, hR 50 (by omega)]; exact m1 r hr, mis, by rw [e0, hR 52 (by omega)]; exact m3⟩
theorem h_restore : ∀ gh MC MR, Rel gh MC MR → ∀ p1, rS_restore Rel gh MC MR p1 := fun gh C R h p1 => by
  obtain ⟨n, hR⟩ := h
  have hc := hR.ch20
  unfold rS_restore f11_restore f12_restore f12_restore_28 f12_goes
  have bad : ∀ v, Rel gh C (rv_u R 66 0 v) := fun v => ⟨n, Rn_66 hR⟩
  rcases hR.dchange p1 with ⟨g, hg, rfl, e1, e2⟩ | ⟨e1, e2⟩
  · rw [e1, e2]
    have hone := hR.chg g hg
    obtain ⟨a1, a2, ⟨r, r1, r2, r3, r4⟩, ⟨s, s1, s2, s3⟩, a5, a6, a7, a8, d, d1, d2, d3⟩ := hone
    obtain ⟨k, k1, k2, k3, k4, -⟩ := hR.sets hg
    by_cases h2 : s = 2
    · left
      subst h2
      obtain ⟨dd, dd1, dd2, dd3⟩ := hR.mis.2.2
      have q52 : rv_u (rv_u R 66 0 (nI 0)) 13 g (nI 0) 52 0 = nI dd := by rw [mu_ne (by omega), mu_ne (by omega)]; exact dd3
      have q0 : rv_u C (100 + g) 5 (nI 0) 0 11 = nI dd := by rw [mu_ne (by omega)]; exact dd2
      have q4 : rv_u (rv_u C (100 + g) 5 (nI 0)) (100 + g) 11 (nI dd) (100 + g) 4 = nI k := by rw [mu_ne2 (by omega), mu_ne2 (by omega)]; exact k3
      have q14 : rv_u (rv_u (rv_u R 66 0 (nI 0)) 13 g (nI 0)) 21 g (nI dd) 14 g = nI k := by rw [mu_ne (by omega), mu_ne (by omega), mu_ne (by omega)]; exact k4
      simp (disch := omega) only [q_no, q_no2, q_0, q_1, q_2, q_3, q_4, q_5, q_6, q_7, q_8, q_10, q_11, q_12, q_15, q_16, q_17, q_20, q_30, q_31, q_32, q_40, q_45, q_60, q_80, q_81, q_82, q_100, q_320, q_328, q_399, q_400, q_3280, q_nc, q_eq, q_lt, q_le, q_add, q_mul, q_in, q_inno, q_no_eq, q_no_eq', q_no_lt, q_lt_no, q_no_le, q_le_no, o1_some, o2_some, lt_do, x1_inl, x1_inr, x2_inl, x2_inr, if_true, if_false, if_pos, if_neg, rvi_t, rvi_f, bt_f, bf_t, bb_t, bb_f, not_true_eq_false, not_false_eq_true, q_sub, is1 hg hc, s2, s3, q52, q0, q4, q14]
      refine ⟨nI (k - 1), rv_u (rv_u C (100 + g) 5 (nI 0)) (100 + g) 11 (nI dd), rv_u (rv_u (rv_u R 66 0 (nI 0)) 13 g (nI 0)) 21 g (nI dd), by trivial, by trivial, ?_, ⟨n, ?_⟩⟩
      · rw [mu_ne (by omega), mu_ne (by omega), mu_same]
      · refine Rn_ch1 hR hg (fun k _ hk => by rw [mu_ne hk, mu_ne hk]) (by rw [q4]; exact k3.symm) (fun k hk => by rw [mu_ne (by omega), mu_ne (by omega), mu_ne (by omega)]) (fun k q hk hq => by rw [mu_ne2 hq, mu_ne2 hq, mu_ne (by omega)]) (by rw [mu_ne (by omega), mu_ne (by omega), mu_ne (by omega)]; exact hR.h64) ?_ (fun z => ?_) ?_ ?_
        · have w : ∀ j, j ≠ 5 → j ≠ 11 → rv_u (rv_u C (100 + g) 5 (nI 0)) (100 + g) 11 (nI dd) (100 + g) j = C (100 + g) j := fun j h1 h2 => by rw [mu_ne2 h2, mu_ne2 h1]
          have v : ∀ j, j ≠ 13 → j ≠ 21 → j ≠ 66 → rv_u (rv_u (rv_u R 66 0 (nI 0)) 13 g (nI 0)) 21 g (nI dd) j = R j := fun j h1 h2 h3 => by rw [mu_ne h2, mu_ne h1, mu_ne h3]
          have v13 : rv_u (rv_u (rv_u R 66 0 (nI 0)) 13 g (nI 0)) 21 g (nI dd) 13 g = nI 0 := by rw [mu_ne (by omega), mu_same]
          unfold chg1
          rw [w 0 (by omega) (by omega), w 1 (by omega) (by omega), w 2 (by omega) (by omega), w 6 (by omega) (by omega), w 7 (by omega) (by omega), w 8 (by omega) (by omega), w 10 (by omega) (by omega), w 12 (by omega) (by omega), v 12 (by omega) (by omega) (by omega), v 5 (by omega) (by omega) (by omega), v 1 (by omega) (by omega) (by omega), v 18 (by omega) (by omega) (by omega), v 15 (by omega) (by omega) (by omega), v 16 (by omega) (by omega) (by omega), v 17 (by omega) (by omega) (by omega), v 20 (by omega) (by omega) (by omega), v 52 (by omega) (by omega) (by omega), v13]
          refine ⟨a1, a2, ⟨r, r1, r2, r3, fun z => ?_⟩, ⟨0, by omega, by rw [mu_ne2 (by omega), mu_same], rfl⟩, a5, a6, a7, a8, dd, by rw [dd3, q_nc (by omega)]; exact Nat.le_refl _, by rw [mu_same], fun _ => by rw [mu_same]⟩
          rw [q_eq (by omega) (by omega)] at z
          omega
        · rw [s3, q_eq (by omega) (by omega)] at z
          omega
        · intro i hi
          rw [mu_ne2 (by omega), mu_ne2 (by omega)]
          have v : ∀ j, j ≠ 13 → j ≠ 21 → j ≠ 66 → rv_u (rv_u (rv_u R 66 0 (nI 0)) 13 g (nI 0)) 21 g (nI dd) j = R j := fun j h1 h2 h3 => by rw [mu_ne h2, mu_ne h1, mu_ne h3]
          rw [v 5 (by omega) (by omega) (by omega), v 12 (by omega) (by omega) (by omega), v 19 (by omega) (by omega) (by omega), v 22 (by omega) (by omega) (by omega), v 25 (by omega) (by omega) (by omega), v 26 (by omega) (by omega) (by omega), v 32 (by omega) (by omega) (by omega)]
          exact hR.rev g hg i hi
        · intro p hp
          rw [mu_ne (by omega), mu_ne (by omega), mu_ne (by omega), mu_ne (by omega), mu_ne (by omega)]
          exact hR.mis.2.1 p hp
    · right; right
      simp (disch := omega) only [q_no, q_no2, q_0, q_1, q_2, q_3, q_4, q_5, q_6, q_7, q_8, q_10, q_11, q_12, q_15, q_16, q_17, q_20, q_30, q_31, q_32, q_40, q_45, q_60, q_80, q_81, q_82, q_100, q_320, q_328, q_399, q_400, q_3280, q_nc, q_eq, q_lt, q_le, q_add, q_mul, q_in, q_inno, q_no_eq, q_no_eq', q_no_lt, q_lt_no, q_no_le, q_le_no, o1_some, o2_some, lt_do, x1_inl, x1_inr, x2_inl, x2_inr, if_true, if_false, if_pos, if_neg, rvi_t, rvi_f, bt_f, bf_t, bb_t, bb_f, not_true_eq_false, not_false_eq_true, is1 hg hc, s2, s3]
      exact ⟨C, rv_u R 66 0 (nI 2), nI 0, by trivial, by trivial, mu_same _ _ _ _, bad _⟩
  · right; left
    rw [e1, e2]
    simp (disch := omega) only [q_no, q_no2, q_0, q_1, q_2, q_3, q_4, q_5, q_6, q_7, q_8, q_10, q_11, q_12, q_15, q_16, q_17, q_20, q_30, q_31, q_32, q_40, q_45, q_60, q_80, q_81, q_82, q_100, q_320, q_328, q_399, q_400, q_3280, q_nc, q_eq, q_lt, q_le, q_add, q_mul, q_in, q_inno, q_no_eq, q_no_eq', q_no_lt, q_lt_no, q_no_le, q_le_no, o1_some, o2_some, lt_do, x1_inl, x1_inr, x2_inl, x2_inr, if_true, if_false, if_pos, if_neg, rvi_t, rvi_f, bt_f, bf_t, bb_t, bb_f, not_true_eq_false, not_false_eq_true]
    exact ⟨C, rv_u R 66 0 (nI 1), nI 0, by trivial, by trivial, mu_same _ _ _ _, bad _⟩

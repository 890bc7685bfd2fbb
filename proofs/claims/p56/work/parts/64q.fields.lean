/-! A CHANGE'S FIELDS -/
theorem ok_pl2 {gh : rC_gh} {j : Nat} (h : rC_is gh 8 (gh.2 (200 + j)) = true) : 300 ≤ gh.2 (200 + j) := by
  unfold rC_is rC_kd at h
  have h2 := (Bool.and_eq_true_iff.mp h).2
  have h3 := of_decide_eq_true h2
  by_cases c1 : gh.2 (200 + j) < 53
  · rw [if_pos c1] at h3
    have : ∀ k, k < 53 → rC_kt.getD k 0 ≠ 108 := by decide
    exact absurd h3 (this _ c1)
  · rw [if_neg c1] at h3
    (repeat' split at h3) <;> omega
/-- fields of the change h but its sets; mails -/
theorem Rn_fld {n : Nat} {gh : rC_gh} {C C' R R' : rv_Mem} (h : Rn n gh C R) {g : Nat} (hg : g < gh.1 0) (hC : ∀ k, k ≠ 13 → k ≠ 100 + g → C' k = C k) (h4 : C' (100 + g) 4 = C (100 + g) 4) (hR : ∀ k, k ≤ 12 ∨ k = 14 ∨ (22 ≤ k ∧ k ≤ 50) ∨ k = 52 → R' k = R k) (h64 : rv_z (R' 64 0) = false)
    (chg : A_chg n (gh.1 0) C' R') (nw : A_new (gh.1 0) R') (par : A_par n (gh.1 0) R') (rev : A_rev n (gh.1 0) (gh.1 1) C' R') (mis : A_mis C' R') : Rn n gh C' R' := by
  have hn := h.n80
  have hc20 := h.ch20
  have e0 := hR 0 (by omega)
  have e1 := hR 1 (by omega)
  have e2 := hR 2 (by omega)
  have e3 := hR 3 (by omega)
  have e4 := hR 4 (by omega)
  have e5 := hR 5 (by omega)
  have e6 := hR 6 (by omega)
  have e14 := hR 14 (by omega)
  have efl : ∀ c f, fl R' c f = fl R c f := fun c f => by unfold fl; rw [e3, e4]
  have eki : ∀ c, kindS n R' c = kindS n R c := fun c => by unfold kindS; simp only [e2, e5, e6, efl]
  have hCx : ∀ k, k ≠ 13 → (k < 100 ∨ 120 ≤ k) → C' k = C k := fun k h1 h2 => hC k h1 (by omega)
  refine ⟨?_, by rw [hCx 14 (by omega) (by omega), hCx 15 (by omega) (by omega), e3, e4]; exact h.fil, by rw [hCx 16 (by omega) (by omega), hCx 17 (by omega) (by omega), hCx 18 (by omega) (by omega), e1, e2, hR 8 (by omega)]; exact h.bas, by rw [hCx 22 (by omega) (by omega), hCx 51 (by omega) (by omega), e1, hR 9 (by omega), hR 10 (by omega)]; exact h.tip, ?_, ?_, chg, nw, par, ?_, rev, ?_, ?_, ?_, ?_, ?_, mis, h.ok⟩
  · obtain ⟨b1, b2, b3, b4, b5, b6, b7, b8, b9, -⟩ := h.cnt
    exact ⟨b1, by rw [hCx 1 (by omega) (by omega)]; exact b2, by rw [e0]; exact b3, b4, by rw [hR 11 (by omega)]; exact b5, b6, by rw [hR 24 (by omega)]; exact b7, b8, by rw [hR 34 (by omega)]; exact b9, h64⟩
  · rw [hCx 19 (by omega) (by omega), hCx 20 (by omega) (by omega), e5, e6, hR 7 (by omega), e14]
    have a := h.own
    unfold A_own at a ⊢
    have e : ∀ h, C' (120 + h) = C (120 + h) := fun h => hCx _ (by omega) (by omega)
    simp only [e]
    exact a
  · rw [e5, e6, e14]
    obtain ⟨s1, s2⟩ := h.set
    refine ⟨fun q hq => ?_, fun q hq hq2 => by rw [hCx 23 (by omega) (by omega)]; exact s2 q hq hq2⟩
    have e : C' (120 + q) = C (120 + q) := hCx _ (by omega) (by omega)
    have e9 : C' (100 + q) 4 = C (100 + q) 4 := by
      by_cases z : q = g
      · subst z; exact h4
      · rw [hC _ (by omega) (by omega)]
    rw [e, e9, hCx 23 (by omega) (by omega)]
    exact s1 q hq
  · intro c hc hc2
    rw [hCx 21 (by omega) (by omega), eki c]
    exact h.kin c hc (by rw [e5] at hc2; exact hc2)
  · rw [hCx 41 (by omega) (by omega), hCx 42 (by omega) (by omega), hR 22 (by omega), hR 23 (by omega)]
    exact h.vot
  · intro j hj
    have a := h.cmt j hj
    have p := ok_pl2 a.2.2.2.2.1
    rw [hCx (200 + j) (by omega) (by omega), hCx (gh.2 (200 + j)) (by omega) (by omega), e5, e6, e3, e14, hR 25 (by omega), hR 26 (by omega), hR 27 (by omega), hR 28 (by omega), hR 29 (by omega), hR 30 (by omega), hR 31 (by omega), hR 32 (by omega), hR 33 (by omega)]
    exact a
  · intro j hj
    have a := h.fnd j hj
    rw [hCx (400 + j) (by omega) (by omega), hCx (500 + j) (by omega) (by omega), e5, e6, e3, e14, hR 35 (by omega), hR 36 (by omega), hR 37 (by omega), hR 38 (by omega), hR 39 (by omega), hR 40 (by omega)]
    exact a
  · have a15 := h.ols
    unfold A_ols at a15 ⊢
    rw [hCx 48 (by omega) (by omega), hCx 49 (by omega) (by omega), hCx 50 (by omega) (by omega), hCx 5 (by omega) (by omega), hR 41 (by omega), hR 42 (by omega), hR 43 (by omega), hR 44 (by omega)]
    exact a15
  · have a16 := h.rul
    unfold A_rul at a16 ⊢
    rw [hCx 4 (by omega) (by omega), hCx 43 (by omega) (by omega), hCx 44 (by omega) (by omega), hCx 45 (by omega) (by omega), hCx 46 (by omega) (by omega), hCx 47 (by omega) (by omega), hR 45 (by omega), hR 46 (by omega), hR 47 (by omega), hR 48 (by omega), hR 49 (by omega)]
    exact a16
theorem parS_fld {n : Nat} {R R' : rv_Mem} (hR : ∀ k, k ≤ 12 ∨ k = 14 ∨ (22 ≤ k ∧ k ≤ 50) ∨ k = 52 → R' k = R k) (h : Nat) : parS n R' h = parS n R h := by
  unfold parS curS
  rw [hR 5 (by omega), hR 6 (by omega), hR 2 (by omega), hR 14 (by omega)]
/-- the states stay: so do the parents' facts -/
theorem par_fld {n ch : Nat} {R R' : rv_Mem} (hR : ∀ k, k ≤ 12 ∨ k = 14 ∨ (22 ≤ k ∧ k ≤ 50) ∨ k = 52 → R' k = R k) (h13 : ∀ g, R 13 g = nI 1 → R' 13 g = nI 1) (h : A_par n ch R) : A_par n ch R' := by
  obtain ⟨⟨ρ, r1⟩, F, f1, f2⟩ := h
  refine ⟨⟨ρ, fun h g hh he => r1 h g hh (by rw [← parS_fld hR]; exact he)⟩, F, fun r g hr hg he => f1 r g hr hg (by rw [← hR 5 (by omega), ← hR 9 (by omega)]; exact he), fun g hF => ⟨h13 g (f2 g hF).1, fun g' hg he => (f2 g hF).2 g' hg (by rw [← parS_fld hR]; exact he)⟩⟩
theorem rev_fld {n ch cm : Nat} {C C' R R' : rv_Mem} (h9 : ∀ h, h < ch → C' (100 + h) 9 = C (100 + h) 9) (hR : ∀ k, k ≤ 12 ∨ k = 14 ∨ (22 ≤ k ∧ k ≤ 50) ∨ k = 52 → R' k = R k) (h19 : R' 19 = R 19) (h : A_rev n ch cm C R) : A_rev n ch cm C' R' := by
  intro q hq i hi
  rw [h9 q hq, hR 5 (by omega), hR 12 (by omega), h19, hR 22 (by omega), hR 25 (by omega), hR 26 (by omega), hR 32 (by omega)]
  exact h q hq i hi
theorem h_setTopic : ∀ gh MC MR, Rel gh MC MR → ∀ p1 p2, rS_setTopic Rel gh MC MR p1 p2 := fun gh C R h p1 p2 => by
  obtain ⟨n, hR⟩ := h
  have hc := hR.ch20
  unfold rS_setTopic f11_setTopic f12_setTopic f12_setTopic_27 f12_goes
  have bad : ∀ v, Rel gh C (rv_u R 66 0 v) := fun v => ⟨n, Rn_66 hR⟩
  rcases hR.dchange p1 with ⟨g, hg, rfl, e1, e2⟩ | ⟨e1, e2⟩
  · rw [e1, e2]
    have good : ∀ t : Int32, (t = NO ∨ ∃ k, k < 4 ∧ t = nI k) → Rel gh (rv_u C (100 + g) 8 t) (rv_u (rv_u R 66 0 (nI 0)) 17 g t) := fun t ht => by
      have hRk : ∀ k, k ≤ 12 ∨ k = 14 ∨ (22 ≤ k ∧ k ≤ 50) ∨ k = 52 → rv_u (rv_u R 66 0 (nI 0)) 17 g t k = R k := fun k hk => by rw [mu_ne (by omega), mu_ne (by omega)]
      have hRl : ∀ k, k ≤ 52 → k ≠ 17 → rv_u (rv_u R 66 0 (nI 0)) 17 g t k = R k := fun k hk h17 => by rw [mu_ne h17, mu_ne (by omega)]
      have h9 : ∀ q, q < gh.1 0 → rv_u C (100 + g) 8 t (100 + q) 9 = C (100 + q) 9 := fun q _ => by
        by_cases z : q = g
        · subst z; rw [mu_ne2 (by omega)]
        · rw [mu_ne (by omega)]
      refine ⟨n, Rn_fld hR hg (fun k _ h2 => mu_ne h2) (mu_ne2 (by omega)) hRk (by rw [mu_ne (by omega), mu_ne (by omega)]; exact hR.h64) ?_ ?_ (par_fld hRk (fun q hq => by rw [hRl 13 (by omega) (by omega)]; exact hq) hR.par) (rev_fld h9 hRk (hRl 19 (by omega) (by omega)) hR.rev) ?_⟩
      · intro q hq
        obtain ⟨a1, a2, a3, a4, a5, a6, ⟨a7, a8⟩, a9, a10⟩ := hR.chg q hq
        rw [hRl 12 (by omega) (by omega), hRl 5 (by omega) (by omega), hRl 1 (by omega) (by omega), hRl 13 (by omega) (by omega), hRl 18 (by omega) (by omega), hRl 15 (by omega) (by omega), hRl 16 (by omega) (by omega), hRl 20 (by omega) (by omega), hRl 52 (by omega) (by omega), hRl 21 (by omega) (by omega)]
        by_cases z : q = g
        · subst z
          simp only [mu_same, mu_ne2 (show (0 : Nat) ≠ 8 by omega), mu_ne2 (show (1 : Nat) ≠ 8 by omega), mu_ne2 (show (2 : Nat) ≠ 8 by omega), mu_ne2 (show (5 : Nat) ≠ 8 by omega), mu_ne2 (show (6 : Nat) ≠ 8 by omega), mu_ne2 (show (7 : Nat) ≠ 8 by omega), mu_ne2 (show (10 : Nat) ≠ 8 by omega), mu_ne2 (show (11 : Nat) ≠ 8 by omega), mu_ne2 (show (12 : Nat) ≠ 8 by omega)]
          exact ⟨a1, a2, a3, a4, a5, a6, ⟨trivial, ht⟩, a9, a10⟩
        · rw [mu_ne (show 100 + q ≠ 100 + g by omega), mu_ne2 z, mu_ne (show 17 ≠ 66 by omega)]
          exact ⟨a1, a2, a3, a4, a5, a6, ⟨a7, a8⟩, a9, a10⟩
      · have a8 := hR.nw
        unfold A_new at a8 ⊢
        rw [hRl 15 (by omega) (by omega), hRl 16 (by omega) (by omega), hRl 19 (by omega) (by omega), hRl 20 (by omega) (by omega)]
        exact a8
      · have a17 := hR.mis
        unfold A_mis at a17 ⊢
        rw [mu_ne (show 12 ≠ 100 + g by omega), mu_ne (show 13 ≠ 100 + g by omega), mu_ne (show 0 ≠ 100 + g by omega), hRl 50 (by omega) (by omega), hRl 51 (by omega) (by omega), hRl 52 (by omega) (by omega)]
        exact a17
    have hv : C (100 + g) 8 = R 17 g := (hR.chg g hg).2.2.2.2.2.2.1.1
    have fin : ∀ t : Int32, (t = NO ∨ ∃ k, k < 4 ∧ t = nI k) → ∃ (r : Int32) (MC' MR' : rv_Mem), some (Sum.inl (C (100 + g) 8, rv_u C (100 + g) 8 t)) = (some (Sum.inl (r, MC')) : Option ((Int32 × rv_Mem) ⊕ (Nat × rv_Mem))) ∧ some (rv_u R 66 0 (nI 0) 17 g, rv_u (rv_u R 66 0 (nI 0)) 17 g t) = some (r, MR') ∧ MR' 66 0 = nI 0 ∧ Rel gh MC' MR' := fun t ht => by
      refine ⟨C (100 + g) 8, _, _, rfl, ?_, ?_, good t ht⟩
      · rw [hv, mu_ne (show 17 ≠ 66 by omega)]
      · rw [mu_ne (by omega), mu_same]
    by_cases hno : p2 = NO
    · left
      subst hno
      have i1 : f12_isIn NO NO (nI 3) = some true := by decide
      simp (disch := omega) only [q_no, q_no2, q_0, q_1, q_2, q_3, q_4, q_5, q_6, q_7, q_8, q_10, q_11, q_12, q_15, q_16, q_17, q_20, q_30, q_31, q_32, q_40, q_45, q_60, q_80, q_81, q_82, q_100, q_320, q_328, q_399, q_400, q_3280, q_nc, q_eq, q_lt, q_le, q_add, q_mul, q_in, q_inno, q_no_eq, q_no_eq', q_no_lt, q_lt_no, q_no_le, q_le_no, o1_some, o2_some, lt_do, x1_inl, x1_inr, x2_inl, x2_inr, if_true, if_false, if_pos, if_neg, rvi_t, rvi_f, bt_f, bf_t, bb_t, bb_f, not_true_eq_false, not_false_eq_true, i1, is1 hg hc, show (NO ≤ NO) = True by simp [Int32.le_refl]]
      exact fin NO (Or.inl rfl)
    · rcases q_any p2 with hx | ⟨t, ht, rfl⟩
      · right; right
        have h0 : (NO ≤ p2) = False := by
          apply propext
          rw [Int32.le_iff_toInt_le, q_nt]
          rw [Int32.lt_iff_toInt_lt] at hx
          have z : (0 : Int32).toInt = 0 := rfl
          have y : p2.toInt ≠ -1 := fun e => hno (Int32.toInt_inj.mp (by rw [e, q_nt]))
          constructor
          · intro _; omega
          · exact False.elim
        have i1 : f12_isIn p2 NO (nI 3) = some false := by unfold f12_isIn; simp only [h0, if_false]
        simp (disch := omega) only [q_no, q_no2, q_0, q_1, q_2, q_3, q_4, q_5, q_6, q_7, q_8, q_10, q_11, q_12, q_15, q_16, q_17, q_20, q_30, q_31, q_32, q_40, q_45, q_60, q_80, q_81, q_82, q_100, q_320, q_328, q_399, q_400, q_3280, q_nc, q_eq, q_lt, q_le, q_add, q_mul, q_in, q_inno, q_no_eq, q_no_eq', q_no_lt, q_lt_no, q_no_le, q_le_no, o1_some, o2_some, lt_do, x1_inl, x1_inr, x2_inl, x2_inr, if_true, if_false, if_pos, if_neg, rvi_t, rvi_f, bt_f, bf_t, bb_t, bb_f, not_true_eq_false, not_false_eq_true, i1, h0]
        exact ⟨C, rv_u R 66 0 (nI 2), nI 0, by trivial, by trivial, mu_same _ _ _ _, bad _⟩
      · by_cases h4 : t < 4
        · left
          have i1 : f12_isIn (nI t) NO (nI 3) = some true := by
            unfold f12_isIn
            simp (disch := omega) only [q_no, q_no2, q_0, q_1, q_2, q_3, q_4, q_5, q_6, q_7, q_8, q_10, q_11, q_12, q_15, q_16, q_17, q_20, q_30, q_31, q_32, q_40, q_45, q_60, q_80, q_81, q_82, q_100, q_320, q_328, q_399, q_400, q_3280, q_nc, q_eq, q_lt, q_le, q_add, q_mul, q_in, q_inno, q_no_eq, q_no_eq', q_no_lt, q_lt_no, q_no_le, q_le_no, o1_some, o2_some, lt_do, x1_inl, x1_inr, x2_inl, x2_inr, if_true, if_false, if_pos, if_neg, rvi_t, rvi_f, bt_f, bf_t, bb_t, bb_f, not_true_eq_false, not_false_eq_true]
          simp (disch := omega) only [q_no, q_no2, q_0, q_1, q_2, q_3, q_4, q_5, q_6, q_7, q_8, q_10, q_11, q_12, q_15, q_16, q_17, q_20, q_30, q_31, q_32, q_40, q_45, q_60, q_80, q_81, q_82, q_100, q_320, q_328, q_399, q_400, q_3280, q_nc, q_eq, q_lt, q_le, q_add, q_mul, q_in, q_inno, q_no_eq, q_no_eq', q_no_lt, q_lt_no, q_no_le, q_le_no, o1_some, o2_some, lt_do, x1_inl, x1_inr, x2_inl, x2_inr, if_true, if_false, if_pos, if_neg, rvi_t, rvi_f, bt_f, bf_t, bb_t, bb_f, not_true_eq_false, not_false_eq_true, i1, is1 hg hc]
          exact fin (nI t) (Or.inr ⟨t, h4, rfl⟩)
        · right; right
          have i1 : f12_isIn (nI t) NO (nI 3) = some false := by
            unfold f12_isIn
            simp (disch := omega) only [q_no, q_no2, q_0, q_1, q_2, q_3, q_4, q_5, q_6, q_7, q_8, q_10, q_11, q_12, q_15, q_16, q_17, q_20, q_30, q_31, q_32, q_40, q_45, q_60, q_80, q_81, q_82, q_100, q_320, q_328, q_399, q_400, q_3280, q_nc, q_eq, q_lt, q_le, q_add, q_mul, q_in, q_inno, q_no_eq, q_no_eq', q_no_lt, q_lt_no, q_no_le, q_le_no, o1_some, o2_some, lt_do, x1_inl, x1_inr, x2_inl, x2_inr, if_true, if_false, if_pos, if_neg, rvi_t, rvi_f, bt_f, bf_t, bb_t, bb_f, not_true_eq_false, not_false_eq_true]
          simp (disch := omega) only [q_no, q_no2, q_0, q_1, q_2, q_3, q_4, q_5, q_6, q_7, q_8, q_10, q_11, q_12, q_15, q_16, q_17, q_20, q_30, q_31, q_32, q_40, q_45, q_60, q_80, q_81, q_82, q_100, q_320, q_328, q_399, q_400, q_3280, q_nc, q_eq, q_lt, q_le, q_add, q_mul, q_in, q_inno, q_no_eq, q_no_eq', q_no_lt, q_lt_no, q_no_le, q_le_no, o1_some, o2_some, lt_do, x1_inl, x1_inr, x2_inl, x2_inr, if_true, if_false, if_pos, if_neg, rvi_t, rvi_f, bt_f, bf_t, bb_t, bb_f, not_true_eq_false, not_false_eq_true, i1, is1 hg hc]
          exact ⟨C, rv_u R 66 0 (nI 2), nI 0, by trivial, by trivial, mu_same _ _ _ _, bad _⟩
  · right; left
    rw [e1, e2]
    simp (disch := omega) only [q_no, q_no2, q_0, q_1, q_2, q_3, q_4, q_5, q_6, q_7, q_8, q_10, q_11, q_12, q_15, q_16, q_17, q_20, q_30, q_31, q_32, q_40, q_45, q_60, q_80, q_81, q_82, q_100, q_320, q_328, q_399, q_400, q_3280, q_nc, q_eq, q_lt, q_le, q_add, q_mul, q_in, q_inno, q_no_eq, q_no_eq', q_no_lt, q_lt_no, q_no_le, q_le_no, o1_some, o2_some, lt_do, x1_inl, x1_inr, x2_inl, x2_inr, if_true, if_false, if_pos, if_neg, rvi_t, rvi_f, bt_f, bf_t, bb_t, bb_f, not_true_eq_false, not_false_eq_true]
    exact ⟨C, rv_u R 66 0 (nI 1), nI 0, by trivial, by trivial, mu_same _ _ _ _, bad _⟩

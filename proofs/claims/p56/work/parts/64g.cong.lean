/-! GROUPS UNDER WRITES TO ARRAYS OF THE CLASS THAT THEY DON'T SPEAK OF -/
theorem own_c {n ch : Nat} {C C' : rv_Mem} {c19 c20 r5 r6 r7 r14 : Nat → Int32} (hC : ∀ k, 100 ≤ k → C' k = C k) (h : A_own n ch C c19 c20 r5 r6 r7 r14) : A_own n ch C' c19 c20 r5 r6 r7 r14 := by
  unfold A_own at h ⊢
  have : ∀ h, C' (120 + h) = C (120 + h) := fun h => hC _ (by omega)
  simp only [this]
  exact h
theorem set_c {n ch : Nat} {C C' : rv_Mem} {r5 r6 r14 : Nat → Int32} (hC : ∀ k, 100 ≤ k → C' k = C k) (h3 : C' 23 = C 23) (h : A_set n ch C r5 r6 r14) : A_set n ch C' r5 r6 r14 := by
  unfold A_set at h ⊢
  have e1 : ∀ h, C' (120 + h) = C (120 + h) := fun h => hC _ (by omega)
  have e2 : ∀ h, C' (100 + h) = C (100 + h) := fun h => hC _ (by omega)
  simp only [e1, e2, h3]
  exact h
theorem chg_c {n ch : Nat} {C C' R : rv_Mem} (hC : ∀ k, 100 ≤ k → C' k = C k) (h : A_chg n ch C R) : A_chg n ch C' R := by
  unfold A_chg at h ⊢
  have e2 : ∀ h, C' (100 + h) = C (100 + h) := fun h => hC _ (by omega)
  simp only [e2]
  exact h
theorem kin_c {n : Nat} {C C' R : rv_Mem} (h1 : C' 21 = C 21) (h : A_kin n C R) : A_kin n C' R := by
  unfold A_kin at h ⊢
  rw [h1]
  exact h
theorem rev_c {n ch cm : Nat} {C C' R : rv_Mem} (hC : ∀ k, 100 ≤ k → C' k = C k) (h : A_rev n ch cm C R) : A_rev n ch cm C' R := by
  unfold A_rev at h ⊢
  have e2 : ∀ h, C' (100 + h) = C (100 + h) := fun h => hC _ (by omega)
  simp only [e2]
  exact h
theorem ok_pl {gh : rC_gh} {j : Nat} (h : rC_is gh 8 (gh.2 (200 + j)) = true) : 100 ≤ gh.2 (200 + j) := by
  unfold rC_is rC_kd at h
  have h2 := (Bool.and_eq_true_iff.mp h).2
  have h3 := of_decide_eq_true h2
  by_cases c1 : gh.2 (200 + j) < 53
  · rw [if_pos c1] at h3
    have : ∀ k, k < 53 → rC_kt.getD k 0 ≠ 108 := by decide
    exact absurd h3 (this _ c1)
  · rw [if_neg c1] at h3
    (repeat' split at h3) <;> omega
theorem cmt_c {ch cm n : Nat} {gh : rC_gh} {C C' R : rv_Mem} (hC : ∀ k, 100 ≤ k → C' k = C k) (h : A_cmt ch cm n gh C R) : A_cmt ch cm n gh C' R := by
  unfold A_cmt at h ⊢
  intro j hj
  have h9 := h j hj
  have e2 : C' (200 + j) = C (200 + j) := hC _ (by omega)
  have e3 : C' (gh.2 (200 + j)) = C (gh.2 (200 + j)) := hC _ (ok_pl h9.2.2.2.2.1)
  rw [e2, e3]
  exact h9
theorem fnd_c {ch fd n : Nat} {C C' R : rv_Mem} (hC : ∀ k, 100 ≤ k → C' k = C k) (h : A_fnd ch fd n C R) : A_fnd ch fd n C' R := by
  unfold A_fnd at h ⊢
  have e1 : ∀ h, C' (400 + h) = C (400 + h) := fun h => hC _ (by omega)
  have e2 : ∀ h, C' (500 + h) = C (500 + h) := fun h => hC _ (by omega)
  simp only [e1, e2]
  exact h
/-- class: writes below 100, but for 1, 14..23, 41.. : reference: scratch; the groups of settings are given anew -/
theorem Rn_set {n : Nat} {gh : rC_gh} {C C' R R' : rv_Mem} (h : Rn n gh C R) (hC : ∀ k, 100 ≤ k → C' k = C k) (hL : ∀ k, k = 1 ∨ (14 ≤ k ∧ k ≤ 23) → C' k = C k) (hR : ∀ k, k ≤ 9 ∨ (11 ≤ k ∧ k ≤ 22) ∨ (24 ≤ k ∧ k ≤ 40) ∨ k = 52 → R' k = R k) (h64 : rv_z (R' 64 0) = false)
    (tip : A_tip n (C' 22) (C' 51) (R' 1) (R' 9) (R' 10)) (vot : A_vot n (C' 41) (C' 42) (R' 22) (R' 23)) (ols : A_ols C' R') (rul : A_rul C' R') (mis : A_mis C' R') : Rn n gh C' R' := by
  have e0 := hR 0 (by omega)
  have e1 := hR 1 (by omega)
  have e2 := hR 2 (by omega)
  have e3 := hR 3 (by omega)
  have e4 := hR 4 (by omega)
  have e5 := hR 5 (by omega)
  have e6 := hR 6 (by omega)
  have e14 := hR 14 (by omega)
  have efl : ∀ c f, fl R' c f = fl R c f := fun c f => by unfold fl; rw [e3, e4]
  have eki : ∀ c, kindS n R' c = kindS n R c := fun c => by unfold kindS; simp only [e2, e5, e6, efl]
  have ecu : ∀ h, curS n R' h = curS n R h := fun h => by unfold curS; rw [e5, e6, e14]
  have epa : ∀ h, parS n R' h = parS n R h := fun h => by unfold parS; rw [ecu, e5, e2]
  refine ⟨?_, by rw [hL 14 (by omega), hL 15 (by omega), e3, e4]; exact h.fil, by rw [hL 16 (by omega), hL 17 (by omega), hL 18 (by omega), e1, e2, hR 8 (by omega)]; exact h.bas, tip, by rw [hL 19 (by omega), hL 20 (by omega), e5, e6, hR 7 (by omega), e14]; exact own_c hC h.own, by rw [e5, e6, e14]; exact set_c hC (hL 23 (by omega)) h.set, ?_, ?_, ?_, ?_, ?_, vot, ?_, ?_, ols, rul, mis, h.ok⟩
  · obtain ⟨b1, b2, b3, b4, b5, b6, b7, b8, b9, -⟩ := h.cnt
    exact ⟨b1, by rw [hL 1 (by omega)]; exact b2, by rw [e0]; exact b3, b4, by rw [hR 11 (by omega)]; exact b5, b6, by rw [hR 24 (by omega)]; exact b7, b8, by rw [hR 34 (by omega)]; exact b9, h64⟩
  · have a7 := chg_c hC h.chg
    unfold A_chg at a7 ⊢
    rw [e5, e1, hR 12 (by omega), hR 13 (by omega), hR 15 (by omega), hR 16 (by omega), hR 17 (by omega), hR 18 (by omega), hR 20 (by omega), hR 21 (by omega), hR 52 (by omega)]
    exact a7
  · have a8 := h.nw
    unfold A_new at a8 ⊢
    rw [hR 15 (by omega), hR 16 (by omega), hR 19 (by omega), hR 20 (by omega)]
    exact a8
  · have a9 := h.par
    unfold A_par at a9 ⊢
    simp only [epa, e5, hR 9 (by omega), hR 13 (by omega)]
    exact a9
  · have a10 := kin_c (hL 21 (by omega)) h.kin
    unfold A_kin at a10 ⊢
    simp only [eki, e5]
    exact a10
  · have a11 := rev_c hC h.rev
    unfold A_rev at a11 ⊢
    rw [e5, hR 12 (by omega), hR 19 (by omega), hR 22 (by omega), hR 25 (by omega), hR 26 (by omega), hR 32 (by omega)]
    exact a11
  · have a13 := cmt_c hC h.cmt
    unfold A_cmt at a13 ⊢
    rw [e5, e6, e3, e14, hR 25 (by omega), hR 26 (by omega), hR 27 (by omega), hR 28 (by omega), hR 29 (by omega), hR 30 (by omega), hR 31 (by omega), hR 32 (by omega), hR 33 (by omega)]
    exact a13
  · have a14 := fnd_c hC h.fnd
    unfold A_fnd at a14 ⊢
    rw [e5, e6, e3, e14, hR 35 (by omega), hR 36 (by omega), hR 37 (by omega), hR 38 (by omega), hR 39 (by omega), hR 40 (by omega)]
    exact a14
theorem s9_write {gh : rC_gh} {C : rv_Mem} {k L i : Nat} {v : Int32} (hi : i < L) (hL : rC_ln k = L) (hA : rC_isA gh k = true) (hb : L < 5000) : f9_write gh C k (nI i) v = some (rv_u C k i v) := by
  unfold f9_write
  simp (disch := omega) only [q_no, q_no2, q_0, q_1, q_2, q_3, q_4, q_5, q_6, q_7, q_8, q_10, q_11, q_12, q_15, q_16, q_17, q_20, q_30, q_31, q_32, q_40, q_45, q_60, q_80, q_81, q_82, q_100, q_320, q_328, q_399, q_400, q_3280, q_nc, q_eq, q_lt, q_le, q_add, q_mul, q_in, q_inno, q_no_eq, q_no_eq', q_no_lt, q_lt_no, q_no_le, q_le_no, o1_some, o2_some, lt_do, x1_inl, x1_inr, x2_inl, x2_inr, if_true, if_false, if_pos, if_neg, rvi_t, rvi_f, bt_f, bf_t, bb_t, bb_f, not_true_eq_false, not_false_eq_true, hA, hL]

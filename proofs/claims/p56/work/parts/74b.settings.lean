/-! SETTINGS, TOPICS, FLAGS -/
theorem r12_repo {m : Nat} (h : m < 2) : f12_isRepository (nI m) = some true := by
  rcases d_repository (fun _ => 0, fun _ => 0) (fun _ _ => 0) (nI m) with ⟨-, -, -, -, e⟩ | ⟨e, -⟩
  · exact e
  · rw [ok_repo h] at e; cases e
section
variable {n n' : Nat} {gh gh' : rC_gh} {C C' R R' A : rv_Mem}
theorem r12_change (hR : Rn n gh C R) {m : Nat} (h : m < gh.1 0) : f12_isChange R (nI m) = some true := by
  rcases hR.dchange (nI m) with ⟨-, -, -, -, e⟩ | ⟨e, -⟩
  · exact e
  · rw [ok_change hR h] at e; cases e
theorem Rn_n (hR : Rn n gh C R) (hR' : Rn n' gh' C' R') (h0 : R' 0 0 = R 0 0) : n' = n := by
  have h1 := hR.n80
  have h2 := hR'.n80
  rw [hR.cnt.2.2.1, hR'.cnt.2.2.1, q_eq (by omega) (by omega)] at h0
  exact h0
theorem t_setWay (hR : Rn n gh C R) (J : JI n gh R A) {m w : Nat} (hm : m < 2) (hw : w < 3) : ∃ v C' R', gp_act gh C A 19 (nI m) (nI w) 0 0 0 = some (nI v, gh, C') ∧ v < 3 ∧ Rn n gh C' R' ∧ JI n gh R' A ∧ R' 52 = R 52 := by
  obtain ⟨-, v, v1, -, v2⟩ := hR.tip m hm
  have e12 : f12_setWay R (nI m) (nI w) = some (R 10 m, rv_u (rv_u R 66 0 (nI 0)) 10 m (nI w)) := by
    unfold f12_setWay f12_setWay_26 f12_goes
    rw [r12_repo hm]
    have hd : decide (0 ≤ w ∧ w ≤ 2) = true := decide_eq_true (by omega)
    simp (disch := omega) only [q_no, q_no2, q_0, q_1, q_2, q_3, q_4, q_5, q_6, q_7, q_8, q_10, q_11, q_12, q_15, q_16, q_17, q_20, q_30, q_31, q_32, q_40, q_45, q_60, q_80, q_81, q_82, q_100, q_320, q_328, q_399, q_400, q_3280, q_nc, q_eq, q_lt, q_le, q_add, q_mul, q_in, q_inno, q_no_eq, q_no_eq', q_no_lt, q_lt_no, q_no_le, q_le_no, o1_some, o2_some, lt_do, x1_inl, x1_inr, x2_inl, x2_inr, if_true, if_false, if_pos, if_neg, rvi_t, rvi_f, bt_f, bf_t, bb_t, bb_f, not_true_eq_false, not_false_eq_true, s12_isIn, hd, mu_ne]
  have key : ∀ C' R', f11_setWay gh C (nI m) (nI w) = some (.inl (R 10 m, C')) → R' = rv_u (rv_u R 66 0 (nI 0)) 10 m (nI w) → Rel gh C' R' → ∃ v C' R', gp_act gh C A 19 (nI m) (nI w) 0 0 0 = some (nI v, gh, C') ∧ v < 3 ∧ Rn n gh C' R' ∧ JI n gh R' A ∧ R' 52 = R 52 := fun C' R' e1 e2 ⟨n', h3⟩ => by
    have hk : ∀ q, q ≠ 10 → q ≠ 66 → R' q = R q := fun q h1 h2 => by rw [e2, mu_ne h1, mu_ne h2]
    have en := Rn_n hR h3 (by rw [hk 0 (by omega) (by omega)])
    subst en
    refine ⟨v, C', R', ?_, v1, h3, JI_cong hR h3 (fun q hq => hk q (by unfold kJI at hq; omega) (by unfold kJI at hq; omega)) J, hk 52 (by omega) (by omega)⟩
    rw [ga_19, e1, x3k, v2]
  rcases h_setWay gh C R ⟨n, hR⟩ (nI m) (nI w) with ⟨r, C', R', e1, e2, -, h3⟩ | ⟨C', R', v', -, e2, e3, -⟩ | ⟨C', R', v', -, e2, e3, -⟩
  · rw [e12] at e2
    injection e2 with e2
    injection e2 with e2 e3
    exact key C' R' (by rw [e1, e2]) e3.symm h3
  · rw [e12] at e2
    injection e2 with e2
    injection e2 with e2 e4
    rw [← e4, mu_ne (by omega), mu_same] at e3
    exact absurd e3 (by decide)
  · rw [e12] at e2
    injection e2 with e2
    injection e2 with e2 e4
    rw [← e4, mu_ne (by omega), mu_same] at e3
    exact absurd e3 (by decide)
theorem t_setOwners (hR : Rn n gh C R) (J : JI n gh R A) {m l p : Nat} (w : Bool) (hm : m < 2) (hl : l < 7) (hp : p < 64) : ∃ v C' R', f11_setOwners gh C (nI m) (nI l) (nI p) w = some (.inl (nI v, C')) ∧ v < 64 ∧ Rn n gh C' R' ∧ JI n gh R' A ∧ R' 52 = R 52 := by
  obtain ⟨⟨v, v1, -, v2⟩, -⟩ := hR.ols.1 (7 * m + l) (by omega)
  have e12 : f12_setOwners R (nI m) (nI l) (nI p) w = some (R 41 (7 * m + l), rv_u (rv_u (rv_u R 66 0 (nI 0)) 41 (7 * m + l) (nI p)) 42 (7 * m + l) (rv_i w)) := by
    unfold f12_setOwners f12_setOwners_37 f12_goes
    rw [r12_repo hm]
    have hd : decide (0 ≤ l ∧ l ≤ 6) = true := decide_eq_true (by omega)
    have hd2 : decide (0 ≤ p ∧ p ≤ 63) = true := decide_eq_true (by omega)
    simp (disch := omega) only [q_no, q_no2, q_0, q_1, q_2, q_3, q_4, q_5, q_6, q_7, q_8, q_10, q_11, q_12, q_15, q_16, q_17, q_20, q_30, q_31, q_32, q_40, q_45, q_60, q_80, q_81, q_82, q_100, q_320, q_328, q_399, q_400, q_3280, q_nc, q_eq, q_lt, q_le, q_add, q_mul, q_in, q_inno, q_no_eq, q_no_eq', q_no_lt, q_lt_no, q_no_le, q_le_no, o1_some, o2_some, lt_do, x1_inl, x1_inr, x2_inl, x2_inr, if_true, if_false, if_pos, if_neg, rvi_t, rvi_f, bt_f, bf_t, bb_t, bb_f, not_true_eq_false, not_false_eq_true, show (63 : Int32) = nI 63 from rfl, s12_isIn, hd, hd2, mu_ne]
  have key : ∀ C' R', f11_setOwners gh C (nI m) (nI l) (nI p) w = some (.inl (R 41 (7 * m + l), C')) → R' = rv_u (rv_u (rv_u R 66 0 (nI 0)) 41 (7 * m + l) (nI p)) 42 (7 * m + l) (rv_i w) → Rel gh C' R' → ∃ v C' R', f11_setOwners gh C (nI m) (nI l) (nI p) w = some (.inl (nI v, C')) ∧ v < 64 ∧ Rn n gh C' R' ∧ JI n gh R' A ∧ R' 52 = R 52 := fun C' R' e1 e2 ⟨n', h3⟩ => by
    have hk : ∀ q, q ≠ 41 → q ≠ 42 → q ≠ 66 → R' q = R q := fun q h1 h2 h4 => by rw [e2, mu_ne h2, mu_ne h1, mu_ne h4]
    have en := Rn_n hR h3 (by rw [hk 0 (by omega) (by omega) (by omega)])
    subst en
    refine ⟨v, C', R', ?_, v1, h3, JI_cong hR h3 (fun q hq => hk q (by unfold kJI at hq; omega) (by unfold kJI at hq; omega) (by unfold kJI at hq; omega)) J, hk 52 (by omega) (by omega) (by omega)⟩
    rw [e1, v2]
  rcases h_setOwners gh C R ⟨n, hR⟩ (nI m) (nI l) (nI p) w with ⟨r, C', R', e1, e2, -, h3⟩ | ⟨C', R', v', -, e2, e3, -⟩ | ⟨C', R', v', -, e2, e3, -⟩
  · rw [e12] at e2
    injection e2 with e2
    injection e2 with e2 e3
    exact key C' R' (by rw [e1, e2]) e3.symm h3
  · rw [e12] at e2
    injection e2 with e2
    injection e2 with e2 e4
    rw [← e4, mu_ne (by omega), mu_ne (by omega), mu_same] at e3
    exact absurd e3 (by decide)
  · rw [e12] at e2
    injection e2 with e2
    injection e2 with e2 e4
    rw [← e4, mu_ne (by omega), mu_ne (by omega), mu_same] at e3
    exact absurd e3 (by decide)
end

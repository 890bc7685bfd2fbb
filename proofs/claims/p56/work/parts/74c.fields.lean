/-! TOPICS, FLAGS, RESTORING -/
section
variable {n n' : Nat} {gh gh' : rC_gh} {C C' R R' A A' : rv_Mem}
theorem JI_new (J : JI n gh R A) (hk : ∀ q, q = 1 ∨ q = 5 ∨ q = 6 ∨ q = 9 ∨ q = 12 ∨ q = 14 ∨ (26 ≤ q ∧ q ≤ 30) ∨ (45 ≤ q ∧ q ≤ 49) → R' q = R q) (h13 : ∀ g, g < gh.1 0 → R 13 g = nI 1 → R' 13 g = nI 1) (hlw : ∀ h, h < gh.1 0 → R' 13 h = nI 1 → R 13 h = nI 1 ∧ R' 18 h = R 18 h)
    (tA : ∀ h, h < gh.1 0 → ∀ i, i < 32 → bt (R' 20 h) i = true → R' 12 h = nI i ∨ bt (rvS R' h) i = true) (tB : ∀ h, h < gh.1 0 → R' 20 h = 0 ∨ (R' 13 h = nI 0 ∧ rv_z (R' 15 h) = false))
    (c0 : ∀ h, h < gh.1 0 → A' 0 (4 * h) = A 0 (4 * h)) (c1 : ∀ h, h < gh.1 0 → A' 0 (4 * h + 1) = nI (flN R' h)) (c2 : ∀ h, h < gh.1 0 → A' 0 (4 * h + 2) = R' 17 h + 1) (cn : ∀ h, gh.1 0 ≤ h → h < 8 → A' 0 (4 * h + 1) = 0 ∧ A' 0 (4 * h + 2) = 0) (hA : ∀ q, q ≠ 0 → A' q = A q) : JI n gh R' A' := by
  have k1 := hk 1 (by omega)
  have k5 := hk 5 (by omega)
  have k6 := hk 6 (by omega)
  have k9 := hk 9 (by omega)
  have k12 := hk 12 (by omega)
  have k14 := hk 14 (by omega)
  have hcur : ∀ g, curS n R' g = curS n R g := fun g => by unfold curS; rw [k5, k6, k14]
  have henc : ∀ j, enc R' j = enc R j := fun j => by
    unfold enc
    rw [hk 26 (by omega), hk 27 (by omega), hk 28 (by omega), hk 29 (by omega), hk 30 (by omega)]
  refine ⟨by rw [k1]; exact J.j1, by rw [hk 45 (by omega)]; exact J.r45, by rw [hk 46 (by omega)]; exact J.r46, by rw [hk 47 (by omega)]; exact J.r47, by rw [hk 48 (by omega)]; exact J.r48, by rw [hk 49 (by omega)]; exact J.r49, J.ch8, fun r g hr hg z => ?_, fun h hh z1 z2 => ?_, fun c c' h s s' => ?_, tA, tB, fun h hh => ?_, c1, c2, cn, by rw [hA 2 (by omega)]; exact J.pA, fun j hj => ?_, J.none⟩
  · rw [k5, k9] at z
    have := J.tips r g hr hg z
    exact ⟨h13 g hg this.1, by rw [k9, hcur]; exact this.2⟩
  · obtain ⟨y1, y2⟩ := hlw h hh z1
    rw [y2, k5] at z2
    rw [y2, hcur]; exact J.lw h hh y1 z2
  · rw [k5, k6]; exact J.mono c c' h s s'
  · rw [c0 h hh, k12]; exact J.cA0 h hh
  · rw [hA 1 (by omega), henc]; exact J.qA j hj
theorem rvS_keys (hR : Rn n gh C R) (hR' : Rn n gh C' R') (hk : ∀ q, q = 5 ∨ q = 12 ∨ q = 19 ∨ q = 22 ∨ q = 25 ∨ q = 26 ∨ q = 32 → R' q = R q) {h : Nat} (hh : h < gh.1 0) : rvS R' h = rvS R h := rvS_cong hR hR' hk hh
theorem up_A {i : Nat} {v : Int32} {j : Nat} (h : j ≠ i) : rv_u A 0 i v 0 j = A 0 j := mu_ne2 h
theorem t_setTopic (hR : Rn n gh C R) (J : JI n gh R A) {m T : Nat} (hm : m < gh.1 0) (hT : T < 3) (A0 : rv_Mem) : ∃ C' R', gp_act gh C A0 10 (nI m) (nI T - 1) 0 0 0 = some (R 17 m, gh, C') ∧ Rn n gh C' R' ∧ JI n gh R' (rv_u A 0 (4 * m + 2) (nI T)) ∧ R' 52 = R 52 := by
  have hc := hR.ch20
  have hin : f12_isIn (nI T - 1) (-1) 3 = some true := by
    rcases (show T = 0 ∨ T = 1 ∨ T = 2 by omega) with rfl | rfl | rfl <;> rfl
  have e12 : f12_setTopic R (nI m) (nI T - 1) = some (R 17 m, rv_u (rv_u R 66 0 (nI 0)) 17 m (nI T - 1)) := by
    unfold f12_setTopic f12_setTopic_27 f12_goes
    rw [r12_change hR hm, o1_some, if_neg (by simp), hin, o1_some, if_pos rfl]
    generalize nI T - 1 = t
    simp (disch := omega) only [q_no, q_no2, q_0, q_1, q_2, q_3, q_4, q_5, q_6, q_7, q_8, q_10, q_11, q_12, q_15, q_16, q_17, q_20, q_30, q_31, q_32, q_40, q_45, q_60, q_80, q_81, q_82, q_100, q_320, q_328, q_399, q_400, q_3280, q_nc, q_eq, q_lt, q_le, q_add, q_mul, q_in, q_inno, q_no_eq, q_no_eq', q_no_lt, q_lt_no, q_no_le, q_le_no, o1_some, o2_some, lt_do, x1_inl, x1_inr, x2_inl, x2_inr, if_true, if_false, if_pos, if_neg, rvi_t, rvi_f, bt_f, bf_t, bb_t, bb_f, not_true_eq_false, not_false_eq_true, mu_ne]
  have key : ∀ C' R', f11_setTopic gh C (nI m) (nI T - 1) = some (.inl (R 17 m, C')) → R' = rv_u (rv_u R 66 0 (nI 0)) 17 m (nI T - 1) → Rel gh C' R' → ∃ C' R', gp_act gh C A0 10 (nI m) (nI T - 1) 0 0 0 = some (R 17 m, gh, C') ∧ Rn n gh C' R' ∧ JI n gh R' (rv_u A 0 (4 * m + 2) (nI T)) ∧ R' 52 = R 52 := fun C' R' e1 e2 ⟨n', h3⟩ => by
    have hk : ∀ q, q ≠ 17 → q ≠ 66 → R' q = R q := fun q h1 h2 => by rw [e2, mu_ne h1, mu_ne h2]
    have en := Rn_n hR h3 (by rw [hk 0 (by omega) (by omega)])
    subst en
    refine ⟨C', R', by rw [ga_10, e1, x3k], h3, ?_, hk 52 (by omega) (by omega)⟩
    refine JI_new J (fun q hq => hk q (by omega) (by omega)) (fun g _ z => by rw [hk 13 (by omega) (by omega)]; exact z) (fun h _ z => ⟨by rw [hk 13 (by omega) (by omega)] at z; exact z, by rw [hk 18 (by omega) (by omega)]⟩) (fun h hh i hi => by rw [hk 20 (by omega) (by omega), hk 12 (by omega) (by omega), rvS_keys hR h3 (fun q hq => hk q (by omega) (by omega)) hh]; exact J.turnA h hh i hi) (fun h hh => by rw [hk 20 (by omega) (by omega), hk 13 (by omega) (by omega), hk 15 (by omega) (by omega)]; exact J.turnB h hh) (fun h _ => up_A (by omega)) (fun h hh => ?_) (fun h hh => ?_) (fun h h1 h2 => ?_) (fun q hq => mu_ne hq)
    · rw [up_A (by omega), J.cA1 h hh]; unfold flN; rw [hk 15 (by omega) (by omega), hk 16 (by omega) (by omega)]
    · by_cases q : h = m
      · subst q
        rw [mu_same, e2, mu_same]
        rcases (show T = 0 ∨ T = 1 ∨ T = 2 by omega) with rfl | rfl | rfl <;> rfl
      · rw [up_A (by omega), J.cA2 h hh, e2, mu_ne2 q, mu_ne (by omega)]
    · rw [up_A (by omega), up_A (by omega)]; exact J.cN h h1 h2
  rcases h_setTopic gh C R ⟨n, hR⟩ (nI m) (nI T - 1) with ⟨r, C', R', e1, e2, -, h3⟩ | ⟨C', R', v', -, e2, e3, -⟩ | ⟨C', R', v', -, e2, e3, -⟩
  · rw [e12] at e2
    injection e2 with e2
    injection e2 with e2 e3
    exact key C' R' (by rw [e1, e2]) e3.symm h3
  · rw [e12] at e2
    injection e2 with e2
    injection e2 with e2 e4
    rw [← e4, mu_ne (by omega), mu_same] at e3
    exact absurd e3 (by decide)
  · rw [e12] at e2
    injection e2 with e2
    injection e2 with e2 e4
    rw [← e4, mu_ne (by omega), mu_same] at e3
    exact absurd e3 (by decide)
theorem t_restore (hR : Rn n gh C R) (J : JI n gh R A) {m : Nat} (hm : m < gh.1 0) (a b c d : Int32) : (gp_act gh C A 8 (nI m) a b c d = some (-1263, gh, C)) ∨ ∃ v C' R', gp_act gh C A 8 (nI m) a b c d = some (nI v, gh, C') ∧ v < 80 ∧ Rn n gh C' R' ∧ JI n gh R' A ∧ R' 52 = R 52 ∧ R' 13 m = nI 0 ∧ R' 20 m = 0 := by
  have hc := hR.ch20
  obtain ⟨-, -, -, ⟨s, s1, s2, s3⟩, -⟩ := hR.chg m hm
  obtain ⟨k, k1, k2, k3, k4, -⟩ := hR.sets hm
  by_cases q : s = 2
  · right
    subst q
    have e12 : f12_restore R (nI m) = some (R 14 m - nI 1, rv_u (rv_u (rv_u R 66 0 (nI 0)) 13 m (nI 0)) 21 m (R 52 0)) := by
      unfold f12_restore f12_restore_28 f12_goes
      rw [r12_change hR hm]
      simp (disch := omega) only [q_no, q_no2, q_0, q_1, q_2, q_3, q_4, q_5, q_6, q_7, q_8, q_10, q_11, q_12, q_15, q_16, q_17, q_20, q_30, q_31, q_32, q_40, q_45, q_60, q_80, q_81, q_82, q_100, q_320, q_328, q_399, q_400, q_3280, q_nc, q_eq, q_lt, q_le, q_add, q_mul, q_in, q_inno, q_no_eq, q_no_eq', q_no_lt, q_lt_no, q_no_le, q_le_no, o1_some, o2_some, lt_do, x1_inl, x1_inr, x2_inl, x2_inr, if_true, if_false, if_pos, if_neg, rvi_t, rvi_f, bt_f, bf_t, bb_t, bb_f, not_true_eq_false, not_false_eq_true, mu_ne, s3]
    have key : ∀ C' R', f11_restore gh C (nI m) = some (.inl (R 14 m - nI 1, C')) → R' = rv_u (rv_u (rv_u R 66 0 (nI 0)) 13 m (nI 0)) 21 m (R 52 0) → Rel gh C' R' → ∃ v C' R', gp_act gh C A 8 (nI m) a b c d = some (nI v, gh, C') ∧ v < 80 ∧ Rn n gh C' R' ∧ JI n gh R' A ∧ R' 52 = R 52 ∧ R' 13 m = nI 0 ∧ R' 20 m = 0 := fun C' R' e1 e2 ⟨n', h3⟩ => by
      have hk : ∀ q, q ≠ 13 → q ≠ 21 → q ≠ 66 → R' q = R q := fun q h1 h2 h4 => by rw [e2, mu_ne h2, mu_ne h1, mu_ne h4]
      have h13 : R' 13 = rv_u (rv_u R 66 0 (nI 0)) 13 m (nI 0) 13 := by rw [e2, mu_ne (by omega)]
      have h13m : R' 13 m = nI 0 := by rw [h13, mu_same]
      have h13o : ∀ g, g ≠ m → R' 13 g = R 13 g := fun g hg => by rw [h13, mu_ne2 hg, mu_ne (by omega)]
      have en := Rn_n hR h3 (by rw [hk 0 (by omega) (by omega) (by omega)])
      subst en
      have t0 : R 20 m = 0 := by
        rcases J.turnB m hm with z | ⟨z, -⟩
        · exact z
        · rw [s3, q_eq (by omega) (by omega)] at z; omega
      refine ⟨k - 1, C', R', by rw [ga_8, e1, x3k, k4, q_sub (by omega)], by omega, h3, ?_, hk 52 (by omega) (by omega) (by omega), h13m, by rw [hk 20 (by omega) (by omega) (by omega)]; exact t0⟩
      refine JI_new J (fun q hq => hk q (by omega) (by omega) (by omega)) (fun g _ z => ?_) (fun h _ z => ?_) (fun h hh i hi => by rw [hk 20 (by omega) (by omega) (by omega), hk 12 (by omega) (by omega) (by omega), rvS_keys hR h3 (fun q hq => hk q (by omega) (by omega) (by omega)) hh]; exact J.turnA h hh i hi) (fun h hh => ?_) (fun h _ => rfl) (fun h hh => ?_) (fun h hh => ?_) J.cN (fun _ _ => rfl)
      · by_cases y : g = m
        · subst y
          rw [s3, q_eq (by omega) (by omega)] at z; omega
        · rw [h13o g y]; exact z
      · by_cases y : h = m
        · subst y
          rw [h13m, q_eq (by omega) (by omega)] at z; omega
        · rw [h13o h y] at z
          exact ⟨z, by rw [hk 18 (by omega) (by omega) (by omega)]⟩
      · by_cases y : h = m
        · subst y
          left; rw [hk 20 (by omega) (by omega) (by omega)]; exact t0
        · rw [hk 20 (by omega) (by omega) (by omega), h13o h y, hk 15 (by omega) (by omega) (by omega)]; exact J.turnB h hh
      · rw [J.cA1 h hh]; unfold flN; rw [hk 15 (by omega) (by omega) (by omega), hk 16 (by omega) (by omega) (by omega)]
      · rw [J.cA2 h hh, hk 17 (by omega) (by omega) (by omega)]
    rcases h_restore gh C R ⟨n, hR⟩ (nI m) with ⟨r, C', R', e1, e2, -, h3⟩ | ⟨C', R', v', -, e2, e3, -⟩ | ⟨C', R', v', -, e2, e3, -⟩
    · rw [e12] at e2
      injection e2 with e2
      injection e2 with e2 e3
      exact key C' R' (by rw [e1, e2]) e3.symm h3
    · rw [e12] at e2
      injection e2 with e2
      injection e2 with e2 e4
      rw [← e4, mu_ne (by omega), mu_ne (by omega), mu_same] at e3
      exact absurd e3 (by decide)
    · rw [e12] at e2
      injection e2 with e2
      injection e2 with e2 e4
      rw [← e4, mu_ne (by omega), mu_ne (by omega), mu_same] at e3
      exact absurd e3 (by decide)
  · left
    rw [ga_8]; unfold f11_restore
    rw [ok_change hR hm, x2_inl, if_pos (is1 hm hc), s2, if_pos (by rw [q_2, q_eq (by omega) (by omega)]; exact q), x3e, hh3]
end

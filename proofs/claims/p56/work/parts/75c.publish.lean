/-! PUBLISHING -/
section
variable {n n' : Nat} {gh gh' : rC_gh} {C C' R R' M M' A A' : rv_Mem}
theorem pub_same {p h : Nat} {C1 : rv_Mem} (h0 : pn R p h (gh.1 1) = 0) (x1 : ∀ q, (q < 200 ∨ 200 + gh.1 1 ≤ q) → C1 q = C q) (x2 : ∀ j, j < gh.1 1 → ∀ x, C1 (200 + j) x = if x = 4 ∧ pd R p h j = true then rv_i true else C (200 + j) x) : C1 = C := by
  funext q
  by_cases hq : q < 200 ∨ 200 + gh.1 1 ≤ q
  · exact x1 q hq
  · obtain ⟨j, rfl⟩ : ∃ j, q = 200 + j := ⟨q - 200, by omega⟩
    funext x
    rw [x2 j (by omega) x]
    have : ¬ pd R p h j = true := by
      intro z
      have : ∀ d, j + 1 + d ≤ gh.1 1 → 0 < pn R p h (j + 1 + d) := by
        intro d
        induction d with
        | zero =>
          intro _
          have e : pn R p h (j + 1) = if pd R p h j = true then pn R p h j + 1 else pn R p h j := rfl
          show 0 < pn R p h (j + 1)
          rw [e, if_pos z]; omega
        | succ d ih =>
          intro hd
          have := ih (by omega)
          have e : pn R p h (j + 1 + d + 1) = if pd R p h (j + 1 + d) = true then pn R p h (j + 1 + d) + 1 else pn R p h (j + 1 + d) := rfl
          show 0 < pn R p h (j + 1 + d + 1)
          rw [e]
          split <;> omega
      have := this (gh.1 1 - (j + 1)) (by omega)
      rw [show j + 1 + (gh.1 1 - (j + 1)) = gh.1 1 by omega] at this
      omega
    rw [if_neg (fun z => this z.2)]
theorem pub_mid (hR : Rn n gh C R) {p h : Nat} (hp : p < 6) (hh : h < gh.1 0) (h0 : ¬ pn R p h (gh.1 1) = 0) : ∃ C1 C2 M1, f11_publish_21 gh rv_FU C (nI p) (nI h) (100 + h) 0 0 = rv_o1 (f0_takePart gh C1 (100 + h) (nI p)) (fun M6 => rv_o1 (f11_passTurns gh M6 (nI p) (100 + h) true) (fun M8 => rv_o1 (f11_noteAct gh M8 (nI p) (100 + h)) (fun M10 => (some (.inl (nI (pn R p h (gh.1 1)), M10)))))) ∧ f0_takePart gh C1 (100 + h) (nI p) = some C2 ∧ (∀ k, k ≠ 32 → k ≠ 66 → M1 k = R k) ∧ (∀ j, j < gh.1 1 → rv_z (M1 32 j) = (rv_z (R 32 j) && !pd R p h j)) ∧ Rn n gh C2 M1 := by
  have hn := hR.n80
  have hc := hR.ch20
  have hcm := hR.cnt.2.2.2.2.2.1
  have h24 := hR.cnt.2.2.2.2.2.2.1
  have hp60 := pn_le R p h (gh.1 1)
  obtain ⟨C1, x1, x2, x3⟩ := hR.pubC hp hh
  have hn0 : ¬ nI (pn R p h (gh.1 1)) = 0 := by rw [q_0, q_eq (by omega) (by omega)]; exact h0
  rw [if_neg hn0] at x3
  obtain ⟨o, o1, o2, o3⟩ := (hR.chg h hh).2.1
  obtain ⟨C2, t1, t2, t3, t4⟩ := s0_takePart (gh := gh) (C := C1) hh hc hp o1 (by rw [x1 _ (by omega)]; exact o2)
  have y : ∀ k, k ≠ 66 → (rv_u (rv_u R 66 0 0) 66 0 0) k = R k := fun k hk => by rw [mu_ne hk, mu_ne hk]
  obtain ⟨M1, m1, m2, m3⟩ := s12_pubLoop (M := rv_u (rv_u R 66 0 0) 66 0 0) (R := R) (p := p) (h := h) (x3 := nI (pn R p h (gh.1 1))) (by rw [y 24 (by omega)]; exact h24) hcm (y 25 (by omega)) (y 26 (by omega)) (y 32 (by omega))
  have v : ∀ k, k ≠ 32 → k ≠ 66 → M1 k = R k := fun k h1 h2 => by rw [m1 k h1, y k h2]
  have hmid : Rn n gh C2 M1 := by
    have f : ∀ k, k ≠ 100 + h → (k < 200 ∨ 260 ≤ k) → C2 k = C k := fun k h1 h2 => by rw [t2 k h1, x1 k (by omega)]
    refine Rn_vp hR hh (fun k _ h2 h3 => f k h2 h3) (fun j hj => by rw [t3 j hj, x1 _ (by omega)]) (fun k h1 _ h3 => v k h3 (by omega)) (by rw [v 64 (by omega) (by omega)]; exact hR.h64) ?_ ?_ ?_
    · rw [f 41 (by omega) (by omega), v 22 (by omega) (by omega)]; exact hR.vot
    · intro q hq i hi
      have base := hR.rev q hq i hi
      have C9 : bt (C2 (100 + q) 9) i = (bt (C (100 + q) 9) i || (decide (q = h) && !decide (p = o) && decide (i = p))) := by
        by_cases e : q = h
        · subst e
          rw [t4 i hi, x1 _ (by omega)]
          simp
        · rw [t2 _ (by omega), x1 _ (by omega)]
          simp [e]
      rw [C9, base]
      unfold revB
      rw [v 5 (by omega) (by omega), v 12 (by omega) (by omega), v 19 (by omega) (by omega), v 22 (by omega) (by omega), v 25 (by omega) (by omega), v 26 (by omega) (by omega)]
      by_cases hsame : q = h ∧ i = p
      · obtain ⟨rfl, rfl⟩ := hsame
        rw [o3]
        by_cases eo : i = o
        · subst eo; simp
        · have en : ¬ nI o = nI i := by rw [q_eq (by omega) (by omega)]; exact fun z => eo z.symm
          obtain ⟨j, j1, j2⟩ := pn_pos (show 0 < pn R i q (gh.1 1) by omega)
          have hany : (List.range (gh.1 1)).any (fun k => decide (R 26 k = nI q) && !rv_z (M1 32 k) && decide (R 25 k = nI i)) = true := by
            rw [List.any_eq_true]
            refine ⟨j, by simpa using j1, ?_⟩
            rw [m2 j j1, j2]
            unfold pd at j2
            simp only [Bool.and_eq_true, decide_eq_true_iff] at j2
            rw [decide_eq_true j2.2, decide_eq_true j2.1.2]
            simp
          rw [hany]
          simp [en, eo]
      · have hex : (decide (q = h) && !decide (p = o) && decide (i = p)) = false := by
          by_cases e1 : q = h
          · have : ¬ i = p := fun z => hsame ⟨e1, z⟩
            simp [this]
          · simp [e1]
        rw [hex, Bool.or_false]
        congr 2
        congr 1
        apply any_congr
        intro k hk
        rw [m2 k hk]
        by_cases c : pd R p h k = true
        · have c2 := c
          unfold pd at c2
          simp only [Bool.and_eq_true, decide_eq_true_iff] at c2
          rw [c2.2, c2.1.2]
          have hne : ¬ (nI h = nI q ∧ nI p = nI i) := by
            rintro ⟨z1, z2⟩
            have : h = q := by rw [q_eq (by omega) (by omega)] at z1; exact z1
            have zi : p = i := by
              have hpi := congrArg Int32.toNatClampNeg z2
              rw [q_nc (by omega), q_nc (by omega)] at hpi
              exact hpi
            exact hsame ⟨this.symm, zi.symm⟩
          by_cases z1 : nI h = nI q
          · have z2 : ¬ nI p = nI i := fun z => hne ⟨z1, z⟩
            simp [z2]
          · simp [z1]
        · rw [show pd R p h k = false by simpa using c]
          simp
    · intro j hj
      obtain ⟨⟨pa, o1', o2', o3'⟩, o4, o5, o6, o7, o8⟩ := hR.cmt j hj
      have ge := ok_pl2 o7
      have fj : ∀ x, x ≠ 4 → C2 (200 + j) x = C (200 + j) x := fun x hx => by rw [t2 _ (by omega), x2 j hj x, if_neg (fun z => hx z.1)]
      have f4 : rv_z (C2 (200 + j) 4) = !rv_z (M1 32 j) := by
        rw [t2 _ (by omega), x2 j hj 4, m2 j hj]
        cases c : pd R p h j with
        | true => rw [if_pos ⟨rfl, rfl⟩, rvz_i]; simp
        | false => rw [if_neg (by simp), o6]; simp
      rw [f (gh.2 (200 + j)) (by omega) (by omega), fj 0 (by omega), fj 1 (by omega), fj 2 (by omega), v 25 (by omega) (by omega), v 31 (by omega) (by omega), v 33 (by omega) (by omega), v 14 (by omega) (by omega), v 26 (by omega) (by omega), v 27 (by omega) (by omega), v 28 (by omega) (by omega), v 29 (by omega) (by omega), v 30 (by omega) (by omega), v 3 (by omega) (by omega), v 5 (by omega) (by omega), v 6 (by omega) (by omega)]
      exact ⟨⟨pa, o1', o2', o3'⟩, o4, o5, f4, o7, o8⟩
  exact ⟨C1, C2, M1, x3, t1, v, m2, hmid⟩
theorem pn_zero {p h : Nat} : ∀ k, (∀ j, j < k → pd R p h j = false) → pn R p h k = 0
  | 0, _ => rfl
  | k + 1, hz => by
    show (if pd R p h k = true then pn R p h k + 1 else pn R p h k) = 0
    rw [if_neg (by rw [hz k (by omega)]; simp)]
    exact pn_zero k (fun j hj => hz j (by omega))
theorem t_pubNo (hR : Rn n gh C R) {p h : Nat} (hp : p < 6) (hh : h < gh.1 0) (h0 : pn R p h (gh.1 1) = 0) (c d e : Int32) : gp_act gh C A 12 (nI p) (nI h) c d e = some (-1263, gh, C) := by
  rw [ga_12]; unfold f11_publish
  rw [ok_person hp, x2_inl, ok_change hR hh, x2_inl]
  rcases hR.seen hh hp with ⟨s1, -⟩ | ⟨s1, -⟩
  · obtain ⟨C1, x1, x2, x3⟩ := hR.pubC hp hh
    rw [h0, if_pos (show nI 0 = 0 from rfl), pub_same h0 x1 x2] at x3
    rw [s1, x2_inl, x3, x3e, hh3]
  · rw [s1, x2_inr, x3e, hh3]
theorem t_publish (hR : Rn n gh C R) (J : JI n gh R A) {p q : Nat} (hp : p < 6) (hq : q < gh.1 0) (c d e : Int32) : (gp_act gh C A 12 (nI p) (nI q) c d e = some (-1263, gh, C)) ∨ ∃ v C' R', gp_act gh C A 12 (nI p) (nI q) c d e = some (nI v, gh, C') ∧ 0 < v ∧ v ≤ 60 ∧ Rn n gh C' R' ∧ JI n gh R' A ∧ R' 52 = R 52 ∧ (R' 12 q = nI p ∨ bt (rvS R' q) p = true) ∧ gp_act gh C' A 12 (nI p) (nI q) c d e = some (-1263, gh, C') := by
  have hn := hR.n80
  have hc := hR.ch20
  have hcm := hR.cnt.2.2.2.2.2.1
  have hp60 := pn_le R p q (gh.1 1)
  by_cases h0 : pn R p q (gh.1 1) = 0
  · exact Or.inl (t_pubNo hR hp hq h0 c d e)
  · rcases hR.seen hq hp with ⟨s1, -⟩ | ⟨s1, -⟩
    · right
      obtain ⟨C1, C2, M1, x3, t1, v, m2, t3⟩ := pub_mid hR hp hq h0
      obtain ⟨C3, C4, R3, R4, z1, z2, z3, z4, z5, z6, z7, z8⟩ := Rn_pass t3 hq hp true
      have f3 := fr_tells z3
      have h643 : rv_z (R3 64 0) = false := by rw [f3 64 (by omega) (by omega)]; exact t3.h64
      obtain ⟨g1, g2, g3, g4⟩ := T_on t3 (fun j hj => f3 j (by omega) (by omega)) h643 hq hp z4
      have kk : ∀ j, j < 53 → j ≠ 20 → j ≠ 21 → j ≠ 32 → j ≠ 51 → R4 j = R j := fun j h1 h2 h3 h4 h5 => by rw [g1 j h1 h2, f3 j h5 h3, v j h4 (by omega)]
      have h32 : R4 32 = M1 32 := by rw [g1 32 (by omega) (by omega), f3 32 (by omega) (by omega)]
      have y : ∀ j, j < 53 → j ≠ 32 → M1 j = R j := fun j h1 h2 => v j h2 (by omega)
      have rv1 : ∀ h, h < gh.1 0 → rvS R4 h = rvS M1 h := fun h hh => rvS_keys t3 z5 (fun j hj => by rw [g1 j (by omega) (by omega), f3 j (by omega) (by omega)]) hh
      have rv2 : ∀ h, h < gh.1 0 → ∀ i, i < 32 → bt (rvS R h) i = true → bt (rvS M1 h) i = true := fun h hh i hi hb => by
        rw [rvS_bt hR hh hi] at hb
        rw [rvS_bt t3 hh hi, y 5 (by omega) (by omega), y 12 (by omega) (by omega), y 19 (by omega) (by omega), y 22 (by omega) (by omega), y 25 (by omega) (by omega), y 26 (by omega) (by omega)]
        refine revB_mono (fun _ h => h) (fun _ _ _ _ _ _ hne => hne) (fun k hk hz => ?_) hb
        rw [m2 k hk, hz]; rfl
      have old : ∀ h, h < gh.1 0 → ∀ i, i < 32 → bt (R 20 h) i = true → R4 12 h = nI i ∨ bt (rvS R4 h) i = true := fun h hh i hi hb => by
        rw [kk 12 (by omega) (by omega) (by omega) (by omega) (by omega), rv1 h hh]
        rcases J.turnA h hh i hi hb with z | z
        · exact Or.inl z
        · exact Or.inr (rv2 h hh i hi z)
      have zero : pn R4 p q (gh.1 1) = 0 := pn_zero _ (fun j hj => by
        unfold pd
        rw [h32, m2 j hj, kk 26 (by omega) (by omega) (by omega) (by omega) (by omega), kk 25 (by omega) (by omega) (by omega) (by omega) (by omega)]
        unfold pd
        cases rv_z (R 32 j) <;> cases decide (R 26 j = nI q) <;> cases decide (R 25 j = nI p) <;> rfl)
      refine ⟨pn R p q (gh.1 1), C4, R4, ?_, by omega, by omega, z5, ?_, kk 52 (by omega) (by omega) (by omega) (by omega) (by omega), ?_, t_pubNo z5 hp hq zero c d e⟩
      · rw [ga_12]; unfold f11_publish
        rw [ok_person hp, x2_inl, ok_change hR hq, x2_inl, s1, x2_inl, x3, t1, o1_some, z1, o1_some, z2, o1_some, x3k]
      · refine JI_new J (fun j hj => kk j (by omega) (by omega) (by omega) (by omega) (by omega)) (fun g _ z => by rw [kk 13 (by omega) (by omega) (by omega) (by omega) (by omega)]; exact z) (fun h _ z => ⟨by rw [kk 13 (by omega) (by omega) (by omega) (by omega) (by omega)] at z; exact z, by rw [kk 18 (by omega) (by omega) (by omega) (by omega) (by omega)]⟩) (fun h hh i hi hb => ?_) (fun h hh => ?_) (fun _ _ => rfl) (fun h hh => ?_) (fun h hh => ?_) J.cN (fun _ _ => rfl)
        · by_cases e : h = q
          · subst e
            rcases g4 i hi hb with ⟨z, -⟩ | ⟨-, -, z⟩
            · rw [y 20 (by omega) (by omega)] at z; exact old h hh i hi z
            · rw [kk 12 (by omega) (by omega) (by omega) (by omega) (by omega), rv1 h hh]
              rw [y 12 (by omega) (by omega)] at z; exact z
          · rw [g3 h e, y 20 (by omega) (by omega)] at hb
            exact old h hh i hi hb
        · by_cases e : h = q
          · subst e
            by_cases ho : R 13 h = nI 0 ∧ rv_z (R 15 h) = false
            · exact Or.inr ⟨by rw [kk 13 (by omega) (by omega) (by omega) (by omega) (by omega)]; exact ho.1, by rw [kk 15 (by omega) (by omega) (by omega) (by omega) (by omega)]; exact ho.2⟩
            · left
              have z0 : R 20 h = 0 := by
                rcases J.turnB h hh with z | z
                · exact z
                · exact absurd z ho
              rw [b_zero]
              intro i hi
              cases hb : bt (R4 20 h) i with
              | false => rfl
              | true =>
                rcases g4 i hi hb with ⟨z, -⟩ | ⟨w1, w2, -⟩
                · rw [y 20 (by omega) (by omega), z0, b_0] at z; cases z
                · rw [y 13 (by omega) (by omega)] at w1
                  rw [y 15 (by omega) (by omega)] at w2
                  exact absurd ⟨w1, w2⟩ ho
          · rw [g3 h e, y 20 (by omega) (by omega), kk 13 (by omega) (by omega) (by omega) (by omega) (by omega), kk 15 (by omega) (by omega) (by omega) (by omega) (by omega)]
            exact J.turnB h hh
        · rw [J.cA1 h hh]; unfold flN; rw [kk 15 (by omega) (by omega) (by omega) (by omega) (by omega), kk 16 (by omega) (by omega) (by omega) (by omega) (by omega)]
        · rw [J.cA2 h hh, kk 17 (by omega) (by omega) (by omega) (by omega) (by omega)]
      · rw [kk 12 (by omega) (by omega) (by omega) (by omega) (by omega)]
        by_cases ho : R 12 q = nI p
        · exact Or.inl ho
        · right
          rw [rvS_bt z5 hq (by omega), kk 12 (by omega) (by omega) (by omega) (by omega) (by omega), kk 25 (by omega) (by omega) (by omega) (by omega) (by omega), kk 26 (by omega) (by omega) (by omega) (by omega) (by omega)]
          obtain ⟨j, j1, j2⟩ := pn_pos (show 0 < pn R p q (gh.1 1) by omega)
          have hany : (List.range (gh.1 1)).any (fun k => decide (R 26 k = nI q) && !rv_z (R4 32 k) && decide (R 25 k = nI p)) = true := by
            rw [List.any_eq_true]
            refine ⟨j, by simpa using j1, ?_⟩
            rw [h32, m2 j j1, j2]
            unfold pd at j2
            simp only [Bool.and_eq_true, decide_eq_true_iff] at j2
            rw [decide_eq_true j2.2, decide_eq_true j2.1.2]
            simp
          unfold revB
          rw [hany, decide_eq_false ho]; simp
    · left
      rw [ga_12]; unfold f11_publish
      rw [ok_person hp, x2_inl, ok_change hR hq, x2_inl, s1, x2_inr, x3e, hh3]
end

/-! VOTING -/
theorem wI_rng0 : ∀ u, u < 6 → 1 ≤ u → (-(2 : Int32)) ≤ wI u ∧ ¬ (2 : Int32) < wI u := by decide
theorem wI_rng1 : ∀ u, u < 5 → 2 ≤ u → (-(1 : Int32)) ≤ wI u ∧ ¬ (1 : Int32) < wI u := by decide
theorem wI_no : ∀ u, u < 6 → wI u ≠ -1263 := by decide
section
variable {n n' : Nat} {gh gh' : rC_gh} {C C' R R' M M' A A' : rv_Mem}
theorem t_vote (hR : Rn n gh C R) (J : JI n gh R A) {q s k p l u : Nat} (hq : q < gh.1 0) (h14 : R 14 q = nI k) (hk80 : k ≤ 80) (hs : s < k) (hp : p < 6) (hl : l < 2) (hu1 : 1 ≤ u) (hu5 : u ≤ 5) (hul : l = 1 → 2 ≤ u ∧ u ≤ 4) :
    (gp_act gh C A 15 (nI p) (nI q) (nI s) (nI l) (wI u) = some (-1263, gh, C)) ∨ ∃ C' R' w, gp_act gh C A 15 (nI p) (nI q) (nI s) (nI l) (wI u) = some (w, gh, C') ∧ w ≠ -1263 ∧ Rn n gh C' R' ∧ JI n gh R' A ∧ R' 52 = R 52 ∧ f11_worth gh C' (nI p) (nI q) (nI s) (nI l) = some (.inl (wI u)) ∧ f11_sets gh C' (nI q) = some (.inl (nI k)) ∧ f11_worth gh C' (nI p) (nI q) (nI (k - 1)) (nI l) = some (.inl w) := by
  have hn := hR.n80
  have hc := hR.ch20
  obtain ⟨c, c1, c2, c3, c4, c5, c6, c7⟩ := ok_set hR hq h14 hk80 hs
  have e0 : gp_act gh C A 15 (nI p) (nI q) (nI s) (nI l) (wI u) = lk_x3 (rv_x2 (f11_needOpenAndSeen gh C (nI p) (100 + q)) C (fun r2 => rv_o1 (f10_castVote gh C (nI c) (nI l) (nI p) (wI u)) (fun M6 => if rC_is gh 1 (100 + q) = true then rv_o1 (f0_takePart gh M6 (100 + q) (nI p)) (fun M9 => rv_o1 (f11_passTurns gh M9 (nI p) (100 + q) false) (fun M11 => rv_o1 (f11_noteAct gh M11 (nI p) (100 + q)) (fun M13 => rv_o1 (f10_worthOn gh M13 (100 + q) ((M13 (100 + q) 4) - 1) (nI l) (nI p)) (fun r15 => (some (.inl (r15, M13))))))) else none))) (fun r2 M5 => (some (r2, gh, M5))) (fun w3 M6 => lk_hh w3 (some ((-1261), gh, M6)) (some ((-1262), gh, M6)) (some ((-1263), gh, M6))) := by
    rw [ga_15]; unfold f11_vote
    rw [ok_person hp, x2_inl, ok_change hR hq, x2_inl, c7, x2_inl, ok_label hl, x2_inl]
    by_cases e : l = 0
    · subst e
      rw [if_pos (show nI 0 = 0 from rfl)]
      unfold f11_vote_34
      rw [if_pos (wI_rng0 u (by omega) hu1).1, if_neg (wI_rng0 u (by omega) hu1).2]
    · have e1 : l = 1 := by omega
      subst e1
      rw [if_neg (by decide)]
      unfold f11_vote_34
      have := hul rfl
      rw [if_pos (wI_rng1 u (by omega) this.1).1, if_neg (wI_rng1 u (by omega) this.1).2]
  rw [e0]
  rcases hR.shut hq hp with ⟨s1, -, s3⟩ | ⟨s1, -⟩
  · right
    generalize hR1 : rv_u R 22 (12 * c + 2 * p + l) (nI u) = R1
    have y : ∀ j, j ≠ 22 → R1 j = R j := fun j hj => by rw [← hR1, mu_ne hj]
    obtain ⟨C1, C2, t1, t2, t3⟩ := Rn_cast (c := c) (l := l) (u := u) hR hq hp hl ⟨hu1, hu5⟩ hul c2 c4 h14 R1 (fun j h1 _ => y j h1) (by rw [← hR1])
    obtain ⟨C3, C4, R3, R4, z1, z2, z3, z4, z5, z6, z7, z8⟩ := Rn_pass t3 hq hp false
    have f3 := fr_tells z3
    have h643 : rv_z (R3 64 0) = false := by rw [f3 64 (by omega) (by omega)]; exact t3.h64
    obtain ⟨g1, g2, g3, g4⟩ := T_on t3 (fun j hj => f3 j (by omega) (by omega)) h643 hq hp z4
    have hk4 : ∀ j, j < 53 → j ≠ 20 → j ≠ 21 → j ≠ 22 → j ≠ 51 → R4 j = R j := fun j h1 h2 h3 h4 h5 => by rw [g1 j h1 h2, f3 j h5 h3, y j h4]
    have h22 : R4 22 = R1 22 := by rw [g1 22 (by omega) (by omega), f3 22 (by omega) (by omega)]
    have k4' : R4 14 q = nI k := by rw [hk4 14 (by omega) (by omega) (by omega) (by omega) (by omega)]; exact h14
    have k3' : C4 (100 + q) 4 = nI k := by
      obtain ⟨k', -, k2', k3', k4'', -⟩ := z5.sets hq
      rw [k4', q_eq (by omega) (by omega)] at k4''
      rw [k3', k4'']
    have ewc := z5.worthC (C1 := C4) (p := p) (l := l) (s := k - 1) hq hp hl k4' hk80 (by omega) rfl rfl rfl rfl rfl
    rw [show k - 1 + 1 = k by omega] at ewc
    -- reviewers stay, and may be more
    have rv1 : ∀ h, h < gh.1 0 → rvS R4 h = rvS R1 h := fun h hh => rvS_keys t3 z5 (fun j hj => by rw [g1 j (by omega) (by omega), f3 j (by omega) (by omega)]) hh
    have rv2 : ∀ h, h < gh.1 0 → ∀ i, i < 32 → bt (rvS R h) i = true → bt (rvS R1 h) i = true := fun h hh i hi hb => by
      rw [rvS_bt hR hh hi] at hb
      rw [rvS_bt t3 hh hi, y 5 (by omega), y 12 (by omega), y 19 (by omega), y 25 (by omega), y 26 (by omega), y 32 (by omega)]
      refine revB_mono (fun _ h => h) (fun c' l' p' _ _ _ hne => ?_) (fun _ _ h => h) hb
      rw [← hR1]
      by_cases e : 12 * c' + 2 * p' + l' = 12 * c + 2 * p + l
      · rw [e, mu_same, ne_eq, q_0, q_eq (by omega) (by omega)]; omega
      · rw [mu_ne2 e]; exact hne
    have wv : wP n R4 q p l (s + 1) = u := by
      have ec : cAt n R4 q s = c := by
        unfold cAt
        rw [hk4 5 (by omega) (by omega) (by omega) (by omega) (by omega), hk4 6 (by omega) (by omega) (by omega) (by omega) (by omega), c6, q_nc (by omega)]
      have ev : vx n R4 q p l s = u := by
        unfold vx
        rw [ec, h22, ← hR1, mu_same, q_nc (by omega)]
      show wst n R4 q p l s _ = u
      unfold wst
      rw [ev, if_pos (by omega)]
    have ws := ak_worth z5 hq k4' hk80 hs hp hl
    rw [wv] at ws
    have wl := ak_worth z5 hq k4' hk80 (show k - 1 < k by omega) hp hl
    rw [show k - 1 + 1 = k by omega] at wl
    refine ⟨C4, R4, wI (wP n R4 q p l k), ?_, wI_no _ (z5.wb (p := p) (l := l) hq hp hl k4' hk80 k (Nat.le_refl _)).2, z5, ?_, hk4 52 (by omega) (by omega) (by omega) (by omega) (by omega), ws, by rw [ak_sets z5 hq, k4'], wl⟩
    · rw [s1, x2_inl, t1, o1_some, if_pos (is1 hq hc), t2, o1_some, z1, o1_some, z2, o1_some, k3', q_1, q_sub (by omega), ewc, o1_some, x3k]
    · have kk : ∀ j, j < 53 → j ≠ 20 → j ≠ 21 → j ≠ 22 → j ≠ 51 → R4 j = R j := hk4
      have old : ∀ h, h < gh.1 0 → ∀ i, i < 32 → bt (R 20 h) i = true → R4 12 h = nI i ∨ bt (rvS R4 h) i = true := fun h hh i hi hb => by
        rw [kk 12 (by omega) (by omega) (by omega) (by omega) (by omega), rv1 h hh]
        rcases J.turnA h hh i hi hb with z | z
        · exact Or.inl z
        · exact Or.inr (rv2 h hh i hi z)
      refine JI_new J (fun j hj => kk j (by omega) (by omega) (by omega) (by omega) (by omega)) (fun g _ z => by rw [kk 13 (by omega) (by omega) (by omega) (by omega) (by omega)]; exact z) (fun h _ z => ⟨by rw [kk 13 (by omega) (by omega) (by omega) (by omega) (by omega)] at z; exact z, by rw [kk 18 (by omega) (by omega) (by omega) (by omega) (by omega)]⟩) (fun h hh i hi hb => ?_) (fun h hh => ?_) (fun _ _ => rfl) (fun h hh => ?_) (fun h hh => ?_) J.cN (fun _ _ => rfl)
      · by_cases e : h = q
        · subst e
          rcases g4 i hi hb with ⟨z, -⟩ | ⟨-, -, z⟩
          · rw [y 20 (by omega)] at z; exact old h hh i hi z
          · rw [kk 12 (by omega) (by omega) (by omega) (by omega) (by omega), rv1 h hh]
            rw [y 12 (by omega)] at z; exact z
        · rw [g3 h e, y 20 (by omega)] at hb
          exact old h hh i hi hb
      · by_cases e : h = q
        · subst e
          cases hw : rv_z (R 15 h) with
          | false => exact Or.inr ⟨by rw [kk 13 (by omega) (by omega) (by omega) (by omega) (by omega)]; exact s3, by rw [kk 15 (by omega) (by omega) (by omega) (by omega) (by omega)]; exact hw⟩
          | true =>
            left
            have z0 : R 20 h = 0 := by
              rcases J.turnB h hh with z | ⟨-, z⟩
              · exact z
              · rw [hw] at z; cases z
            rw [b_zero]
            intro i hi
            cases hb : bt (R4 20 h) i with
            | false => rfl
            | true =>
              rcases g4 i hi hb with ⟨z, -⟩ | ⟨-, z, -⟩
              · rw [y 20 (by omega), z0, b_0] at z; cases z
              · rw [y 15 (by omega), hw] at z; cases z
        · rw [g3 h e, y 20 (by omega), kk 13 (by omega) (by omega) (by omega) (by omega) (by omega), kk 15 (by omega) (by omega) (by omega) (by omega) (by omega)]
          exact J.turnB h hh
      · rw [J.cA1 h hh]; unfold flN; rw [kk 15 (by omega) (by omega) (by omega) (by omega) (by omega), kk 16 (by omega) (by omega) (by omega) (by omega) (by omega)]
      · rw [J.cA2 h hh, kk 17 (by omega) (by omega) (by omega) (by omega) (by omega)]
  · left
    rw [s1, x2_inr, x3e, hh3]
end

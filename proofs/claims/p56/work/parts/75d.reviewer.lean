/-! REVIEWERS ARE ADDED -/
section
variable {n n' : Nat} {gh gh' : rC_gh} {C C' R R' M M' A A' : rv_Mem}
theorem add_good (hR : Rn n gh C R) {p g o : Nat} (hp : p < 6) (hg : g < gh.1 0) (ho : ¬ o = p) (o1 : o < 6) (o3 : R 12 g = nI o) (h13 : R 13 g = nI 0) : ∀ w : Bool, ∃ C', f11_addReviewer_52 gh C (nI p) (100 + g) w = some (.inl (w, C')) ∧ Rel gh C' (rv_u (rv_u (rv_u (rv_u R 66 0 (nI 0)) 66 0 (nI 0)) 19 g (R 19 g ||| (1 <<< (nI p &&& 31)))) 20 g (gvT (R 13 g) (R 15 g) (R 20 g) (1 <<< (nI p &&& 31)))) := by
  have hc := hR.ch20
  obtain ⟨a1, ⟨o', o1', o2, o3'⟩, a3, ⟨s, s1, s2, s3⟩, a5, a6, a7, a8, a9⟩ := hR.chg g hg
  have eo : o = o' := by rw [o3, q_eq (by omega) (by omega)] at o3'; exact o3'
  subst eo
  have es : s = 0 := by rw [h13, q_eq (by omega) (by omega)] at s3; exact s3.symm
  subst es
  have goodC : ∀ w : Bool, ∃ C', f11_addReviewer_52 gh C (nI p) (100 + g) w = some (.inl (w, C')) ∧ Rel gh C' (rv_u (rv_u (rv_u (rv_u R 66 0 (nI 0)) 66 0 (nI 0)) 19 g (R 19 g ||| (1 <<< (nI p &&& 31)))) 20 g (gvT (R 13 g) (R 15 g) (R 20 g) (1 <<< (nI p &&& 31)))) := by
    intro w
    obtain ⟨C', c1, c2, c3, c4⟩ := s0_giveTurns (gh := gh) (C := rv_u C (100 + g) 9 (C (100 + g) 9 ||| (1 <<< (nI p &&& 31)))) hg hc (1 <<< (nI p &&& 31))
    refine ⟨C', ?_, n, ?_⟩
    · unfold f11_addReviewer_52
      rw [if_pos (is1 hg hc)]
      show rv_o1 (f0_giveTurns gh (rv_u C (100 + g) 9 (C (100 + g) 9 ||| (1 <<< (nI p &&& 31)))) (100 + g) (1 <<< (nI p &&& 31))) _ = _
      rw [c1]; rfl
    · have c3' : ∀ j, j ≠ 9 → j ≠ 10 → C' (100 + g) j = C (100 + g) j := fun j h9 h10 => by rw [c3 j h10, mu_ne2 h9]
      have v : ∀ j, j ≠ 19 → j ≠ 20 → j ≠ 66 → rv_u (rv_u (rv_u (rv_u R 66 0 (nI 0)) 66 0 (nI 0)) 19 g (R 19 g ||| (1 <<< (nI p &&& 31)))) 20 g (gvT (R 13 g) (R 15 g) (R 20 g) (1 <<< (nI p &&& 31))) j = R j := fun j h1 h2 h3 => by rw [mu_ne h2, mu_ne h1, mu_ne h3, mu_ne h3]
      refine Rn_ch1 hR hg (fun k _ hk => by rw [c2 k hk, mu_ne hk]) (c3' 4 (by omega) (by omega)) (fun k hk => v k (by omega) (by omega) (by omega)) (fun k q hk hq => by rw [mu_ne2 hq, mu_ne2 hq, mu_ne (by omega), mu_ne (by omega)]) (by rw [v 64 (by omega) (by omega) (by omega)]; exact hR.h64) ?_ (fun z => by rw [v 13 (by omega) (by omega) (by omega)]; exact z) ?_ ?_
      · unfold chg1
        rw [c3' 0 (by omega) (by omega), c3' 1 (by omega) (by omega), c3' 2 (by omega) (by omega), c3' 5 (by omega) (by omega), c3' 6 (by omega) (by omega), c3' 7 (by omega) (by omega), c3' 8 (by omega) (by omega), c3' 11 (by omega) (by omega), c3' 12 (by omega) (by omega), c4, v 12 (by omega) (by omega) (by omega), v 5 (by omega) (by omega) (by omega), v 1 (by omega) (by omega) (by omega), v 13 (by omega) (by omega) (by omega), v 18 (by omega) (by omega) (by omega), v 15 (by omega) (by omega) (by omega), v 16 (by omega) (by omega) (by omega), v 17 (by omega) (by omega) (by omega), v 21 (by omega) (by omega) (by omega), v 52 (by omega) (by omega) (by omega), mu_same]
        refine ⟨a1, ⟨o, o1, o2, o3⟩, a3, ⟨0, s1, s2, s3⟩, a5, a6, a7, ?_, a9⟩
        rw [mu_ne2 (by omega), mu_ne2 (by omega), mu_ne2 (by omega), gvT_cong a5, a8, s2, s3]
      · intro i hi
        rw [c3 9 (by omega), mu_same, b_or, b_shl1 p (by omega) i hi, hR.rev g hg i hi, v 5 (by omega) (by omega) (by omega), v 12 (by omega) (by omega) (by omega), v 22 (by omega) (by omega) (by omega), v 25 (by omega) (by omega) (by omega), v 26 (by omega) (by omega) (by omega), v 32 (by omega) (by omega) (by omega), mu_ne (show 19 ≠ 20 by omega)]
        unfold revB
        rw [mu_same, b_or, b_shl1 p (by omega) i hi]
        by_cases ei : i = p
        · subst ei
          have : decide (R 12 g = nI i) = false := by
            rw [o3]
            exact decide_eq_false (by rw [q_eq (by omega) (by omega)]; exact ho)
          rw [this]
          simp
        · rw [decide_eq_false ei]
          simp
      · intro q hq
        rw [c2 13 (by omega), mu_ne (by omega), v 51 (by omega) (by omega) (by omega)]
        exact hR.mis.2.1 q hq
  exact goodC
theorem t_addReviewer (hR : Rn n gh C R) (J : JI n gh R A) {p q : Nat} (hp : p < 6) (hq : q < gh.1 0) (c d e : Int32) : ∃ w C' R', gp_act gh C A 21 (nI p) (nI q) c d e = some (w, gh, C') ∧ Rn n gh C' R' ∧ JI n gh R' A ∧ R' 52 = R 52 ∧ (w = -1263 ∨ bt (rvS R' q) p = true) := by
  have hn := hR.n80
  have hc := hR.ch20
  obtain ⟨a1, ⟨o, o1, o2, o3⟩, -, ⟨s, s1, s2, s3⟩, -⟩ := hR.chg q hq
  by_cases hs : s = 0
  · subst hs
    by_cases ho : o = p
    · refine ⟨-1263, C, R, ?_, hR, J, rfl, Or.inl rfl⟩
      rw [ga_21]; unfold f11_addReviewer
      rw [ok_person hp, x2_inl, ok_change hR hq, x2_inl, if_pos (is1 hq hc), if_pos (show C (100 + q) 5 = 0 from s2), if_pos (by rw [o2, ho]), x3e, hh3]
    · have good := add_good hR hp hq ho o1 o3 s3
      have fin : ∀ w, f11_addReviewer gh C (nI p) (nI q) = f11_addReviewer_52 gh C (nI p) (100 + q) w → ∃ w C' R', gp_act gh C A 21 (nI p) (nI q) c d e = some (w, gh, C') ∧ Rn n gh C' R' ∧ JI n gh R' A ∧ R' 52 = R 52 ∧ (w = -1263 ∨ bt (rvS R' q) p = true) := fun w ew => by
        obtain ⟨C', e1, n', h3⟩ := good w
        generalize hE : rv_u (rv_u (rv_u (rv_u R 66 0 (nI 0)) 66 0 (nI 0)) 19 q (R 19 q ||| (1 <<< (nI p &&& 31)))) 20 q (gvT (R 13 q) (R 15 q) (R 20 q) (1 <<< (nI p &&& 31))) = E at h3
        have kk : ∀ j, j ≠ 19 → j ≠ 20 → j ≠ 66 → E j = R j := fun j h1 h2 h4 => by rw [← hE, mu_ne h2, mu_ne h1, mu_ne h4, mu_ne h4]
        have en := Rn_n hR h3 (by rw [kk 0 (by omega) (by omega) (by omega)])
        subst en
        have h19 : E 19 q = R 19 q ||| (1 <<< (nI p &&& 31)) := by rw [← hE, mu_ne (by omega), mu_same]
        have h19o : ∀ x, x ≠ q → E 19 x = R 19 x := fun x hx => by rw [← hE, mu_ne (by omega), mu_ne2 hx, mu_ne (by omega), mu_ne (by omega)]
        have h20 : E 20 q = gvT (R 13 q) (R 15 q) (R 20 q) (1 <<< (nI p &&& 31)) := by rw [← hE, mu_same]
        have h20o : ∀ x, x ≠ q → E 20 x = R 20 x := fun x hx => by rw [← hE, mu_ne2 hx, mu_ne (by omega), mu_ne (by omega), mu_ne (by omega)]
        have rv2 : ∀ h, h < gh.1 0 → ∀ i, i < 32 → bt (rvS R h) i = true → bt (rvS E h) i = true := fun h hh i hi hb => by
          rw [rvS_bt hR hh hi] at hb
          rw [rvS_bt h3 hh hi, kk 5 (by omega) (by omega) (by omega), kk 12 (by omega) (by omega) (by omega), kk 22 (by omega) (by omega) (by omega), kk 25 (by omega) (by omega) (by omega), kk 26 (by omega) (by omega) (by omega), kk 32 (by omega) (by omega) (by omega)]
          refine revB_mono (fun j hj => ?_) (fun _ _ _ _ _ _ hne => hne) (fun _ _ hz => hz) hb
          by_cases y : h = q
          · subst y; rw [h19, b_or, hj]; rfl
          · rw [h19o h y]; exact hj
        have hrp : bt (rvS E q) p = true := by
          rw [rvS_bt h3 hq (by omega), kk 12 (by omega) (by omega) (by omega)]
          unfold revB
          rw [decide_eq_false (show ¬ R 12 q = nI p by rw [o3, q_eq (by omega) (by omega)]; exact ho), h19, b_or, b_shl1 p (by omega) p (by omega), decide_eq_true (rfl : p = p)]
          simp
        have old : ∀ h, h < gh.1 0 → ∀ i, i < 32 → bt (R 20 h) i = true → E 12 h = nI i ∨ bt (rvS E h) i = true := fun h hh i hi hb => by
          rw [kk 12 (by omega) (by omega) (by omega)]
          rcases J.turnA h hh i hi hb with z | z
          · exact Or.inl z
          · exact Or.inr (rv2 h hh i hi z)
        refine ⟨if w = true then 1 else 0, C', E, ?_, h3, ?_, kk 52 (by omega) (by omega) (by omega), Or.inr hrp⟩
        · rw [ga_21, ew, e1, x3k]; cases w <;> rfl
        · refine JI_new J (fun j hj => kk j (by omega) (by omega) (by omega)) (fun g _ z => by rw [kk 13 (by omega) (by omega) (by omega)]; exact z) (fun h _ z => ⟨by rw [kk 13 (by omega) (by omega) (by omega)] at z; exact z, by rw [kk 18 (by omega) (by omega) (by omega)]⟩) (fun h hh i hi hb => ?_) (fun h hh => ?_) (fun _ _ => rfl) (fun h hh => ?_) (fun h hh => ?_) J.cN (fun _ _ => rfl)
          · by_cases y : h = q
            · subst y
              rw [h20] at hb
              unfold gvT at hb
              split at hb
              · rw [b_or] at hb
                rcases Bool.or_eq_true_iff.mp hb with z | z
                · exact old h hh i hi z
                · rw [b_shl1 p (by omega) i hi] at z
                  rw [of_decide_eq_true z]; exact Or.inr hrp
              · exact old h hh i hi hb
            · rw [h20o h y] at hb; exact old h hh i hi hb
          · by_cases y : h = q
            · subst y
              rw [h20, kk 13 (by omega) (by omega) (by omega), kk 15 (by omega) (by omega) (by omega)]
              unfold gvT
              split
              · rename_i hcond; exact Or.inr hcond
              · exact J.turnB h hh
            · rw [h20o h y, kk 13 (by omega) (by omega) (by omega), kk 15 (by omega) (by omega) (by omega)]; exact J.turnB h hh
          · rw [J.cA1 h hh]; unfold flN; rw [kk 15 (by omega) (by omega) (by omega), kk 16 (by omega) (by omega) (by omega)]
          · rw [J.cA2 h hh, kk 17 (by omega) (by omega) (by omega)]
      have eC : f11_addReviewer gh C (nI p) (nI q) = if bt (C (100 + q) 9) p = false then f11_addReviewer_52 gh C (nI p) (100 + q) true else f11_addReviewer_52 gh C (nI p) (100 + q) false := by
        unfold f11_addReviewer
        rw [ok_person hp, x2_inl, ok_change hR hq, x2_inl, if_pos (is1 hq hc), if_pos (show C (100 + q) 5 = 0 from s2), if_neg (by rw [o2, q_eq (by omega) (by omega)]; exact ho), s11_isIn (by omega), o1_some]
      by_cases hb : bt (C (100 + q) 9) p = false
      · exact fin true (by rw [eC, if_pos hb])
      · exact fin false (by rw [eC, if_neg hb])
  · refine ⟨-1263, C, R, ?_, hR, J, rfl, Or.inl rfl⟩
    rw [ga_21]; unfold f11_addReviewer
    rw [ok_person hp, x2_inl, ok_change hR hq, x2_inl, if_pos (is1 hq hc), s2, if_neg (by rw [q_0, q_eq (by omega) (by omega)]; exact hs), x3e, hh3]
end

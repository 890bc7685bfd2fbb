/-! THE LAST RESORT IS SET -/
section
variable {n n' : Nat} {gh gh' : rC_gh} {C C' R R' M M' A A' : rv_Mem}
theorem t_lastResort (hR : Rn n gh C R) (J : JI n gh R A) {p : Nat} (hp : p < 6) (a b c d : Int32) : ∃ C' R', gp_act gh C A 23 (nI p) a b c d = some (R 44 0, gh, C') ∧ Rn n gh C' R' ∧ JI n gh R' A ∧ R' 52 = R 52 ∧ R' 44 0 = nI p := by
  obtain ⟨p', -, g1, g2⟩ := hR.ols.2.2
  have h3 : Rn n gh (rv_u C 5 3 (nI p)) (rv_u (rv_u R 66 0 (nI 0)) 44 0 (nI p)) := Rn_set hR (fun k hk => mu_ne (by omega)) (fun k hk => mu_ne (by omega)) (fun k hk => by rw [mu_ne (by omega), mu_ne (by omega)]) (by rw [mu_ne (by omega), mu_ne (by omega)]; exact hR.h64) hR.tip hR.vot ⟨hR.ols.1, hR.ols.2.1, p, hp, mu_same _ _ _ _, mu_same _ _ _ _⟩ hR.rul hR.mis
  refine ⟨_, _, ?_, h3, ?_, by rw [mu_ne (by omega), mu_ne (by omega)], mu_same _ _ _ _⟩
  · rw [ga_23]
    unfold f11_setLastResort
    rw [ok_person hp, x2_inl]
    rw [lt_do, x3k, g1, g2]
  · refine JI_cong hR h3 (fun q hq => ?_) J
    unfold kJI at hq
    rw [mu_ne (by omega), mu_ne (by omega)]
end

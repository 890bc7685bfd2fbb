/-! A LOOK AT THE CALENDAR -/
section
variable {n n' : Nat} {gh gh' : rC_gh} {C C' R R' M M' A A' : rv_Mem}
theorem t_advance (hR : Rn n gh C R) (J : JI n gh R A) {d D : Nat} (h1 : 1 ≤ d) (h100 : d ≤ 100) (hD : R 52 0 = nI D) (hb : D + d ≤ 10000) (a b c e : Int32) : ∃ v C' R', gp_act gh C A 22 (nI d) a b c e = some (nI v, gh, C') ∧ v ≤ 20 ∧ Rn n gh C' R' ∧ JI n gh R' A ∧ R' 52 0 = nI (D + d) := by
  obtain ⟨v, C', R', T, e1, e2, h3, t, ho⟩ := t_days hR h1 h100 hD hb
  refine ⟨v, C', R', ?_, e2, h3, JI_days hR h3 J (fun q hq => mu_ne hq) t ho, t.2.2.2.2⟩
  rw [ga_22, e1, x3k]
end

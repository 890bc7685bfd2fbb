/-! WHAT A NEW PATCH SET CHANGES -/
/-- what a new patch set k of change h, uploaded by p, leaves and writes -/
def xF (n h k p : Nat) (R0 R2 : rv_Mem) : Prop := (∀ q, 9 ≤ q → q < 53 → q ≠ 14 → q ≠ 20 → q ≠ 21 → q ≠ 51 → R2 q = R0 q) ∧ R2 5 n = nI h ∧ R2 6 n = nI k ∧ (∀ x, x ≠ n → R2 1 x = R0 1 x ∧ R2 5 x = R0 5 x ∧ R2 6 x = R0 6 x) ∧ R2 14 h = nI (k + 1) ∧ (∀ x, x ≠ h → R2 14 x = R0 14 x ∧ R2 20 x = R0 20 x) ∧ (∀ i, i < 32 → bt (R2 20 h) i = true → i ≠ p ∧ (bt (R0 20 h) i = true ∨ (R0 13 h = nI 0 ∧ rv_z (R0 15 h) = false ∧ (R2 12 h = nI i ∨ bt (rvS R2 h) i = true) ∧ (R2 12 h = nI p → bt (rvS R2 h) i = true))))
section
variable {n n' : Nat} {gh gh' : rC_gh} {C C' R R' M M' A A' : rv_Mem}
theorem X_facts {C2 C3 R0 R2 T E1 Rm Rc : rv_Mem} {h k p r b : Nat} (hST : Rn (n + 1) gh' C3 T) (hR2 : Rn (n + 1) gh' C2 R2) (u3 : f12_tells T (nI h) (nI p) = some E1) (u4 : f12_turnsOn E1 (nI h) (nI p) (!true) = some R2) (m3 : f12_makes Rc (nI r) (nI b) = some (nI n, Rm)) (tq : ∀ q, q ≠ 21 → T q = st3R Rm n h p k q) (hRc : ∀ q, q ≠ 3 → q ≠ 4 → Rc q = R0 q) (h0 : R0 0 0 = nI n) (hn : n < 80) (hh : h < gh'.1 0) (hp : p < 6) :
    xF n h k p R0 R2 := by
  obtain ⟨-, y1, y2, y3, y4⟩ := fr_makes (by rw [hRc 0 (by omega) (by omega)]; exact h0) hn m3
  have f := fr_tells u3
  have h64 : rv_z (E1 64 0) = false := by rw [f 64 (by omega) (by omega)]; exact hST.h64
  obtain ⟨g1, g2, g3, g4⟩ := T_onB hST (fun j hj => f j (by omega) (by omega)) h64 hh hp u4
  have s1 : ∀ q, q ≠ 5 → q ≠ 6 → q ≠ 7 → q ≠ 14 → q ≠ 21 → T q = Rm q := fun q a b c d e => by
    rw [tq q e]
    unfold st3R
    rw [mu_ne d, mu_ne c, mu_ne b, mu_ne a]
  have rv : rvS R2 h = rvS T h := rvS_keys hST hR2 (fun q hq => by rw [g1 q (by omega) (by omega), f q (by omega) (by omega)]) hh
  have a14 : ∀ x, R2 14 x = T 14 x := fun x => by rw [g1 14 (by omega) (by omega), f 14 (by omega) (by omega)]
  have o14 : Rm 14 = R0 14 := by rw [y1 14 (by omega) (by omega) (by omega) (by omega) (by omega) (by omega) (by omega), hRc 14 (by omega) (by omega)]
  have o20 : T 20 = R0 20 := by rw [s1 20 (by omega) (by omega) (by omega) (by omega) (by omega), y1 20 (by omega) (by omega) (by omega) (by omega) (by omega) (by omega) (by omega), hRc 20 (by omega) (by omega)]
  have ob : ∀ q, 9 ≤ q → q < 53 → q ≠ 14 → q ≠ 21 → q ≠ 51 → T q = R0 q := fun q a b c d e => by
    rw [s1 q (by omega) (by omega) (by omega) c d, y1 q (by omega) (by omega) (by omega) (by omega) (by omega) (by omega) (by omega), hRc q (by omega) (by omega)]
  unfold xF
  refine ⟨fun q a b c d e g => by rw [g1 q b d, f q g e, ob q a b c e g], ?_, ?_, fun x hx => ⟨?_, ?_, ?_⟩, ?_, fun x hx => ⟨?_, ?_⟩, fun i hi hb => ?_⟩
  · rw [g1 5 (by omega) (by omega), f 5 (by omega) (by omega), tq 5 (by omega)]
    unfold st3R
    rw [mu_ne (by omega), mu_ne (by omega), mu_ne (by omega), mu_same]
  · rw [g1 6 (by omega) (by omega), f 6 (by omega) (by omega), tq 6 (by omega)]
    unfold st3R
    rw [mu_ne (by omega), mu_ne (by omega), mu_same]
  · rw [g1 1 (by omega) (by omega), f 1 (by omega) (by omega), s1 1 (by omega) (by omega) (by omega) (by omega) (by omega), (y3 x hx).1, hRc 1 (by omega) (by omega)]
  · rw [g1 5 (by omega) (by omega), f 5 (by omega) (by omega), tq 5 (by omega)]
    unfold st3R
    rw [mu_ne (by omega), mu_ne (by omega), mu_ne (by omega), mu_ne2 hx, (y3 x hx).2, hRc 5 (by omega) (by omega)]
  · rw [g1 6 (by omega) (by omega), f 6 (by omega) (by omega), tq 6 (by omega)]
    unfold st3R
    rw [mu_ne (by omega), mu_ne (by omega), mu_ne2 hx, mu_ne (by omega), y1 6 (by omega) (by omega) (by omega) (by omega) (by omega) (by omega) (by omega), hRc 6 (by omega) (by omega)]
  · rw [a14, tq 14 (by omega)]
    unfold st3R
    rw [mu_same]
  · rw [a14, tq 14 (by omega)]
    unfold st3R
    rw [mu_ne2 hx, mu_ne (by omega), mu_ne (by omega), mu_ne (by omega), o14]
  · rw [g3 x hx, o20]
  · rcases g4 i hi hb with z | z
    · rw [o20] at z; exact ⟨z.2, Or.inl z.1⟩
    · rw [ob 13 (by omega) (by omega) (by omega) (by omega) (by omega), ob 15 (by omega) (by omega) (by omega) (by omega) (by omega)] at z
      refine ⟨z.2.2.1, Or.inr ⟨z.1, z.2.1, ?_⟩⟩
      rw [rv, g1 12 (by omega) (by omega), f 12 (by omega) (by omega)]
      exact z.2.2.2
end

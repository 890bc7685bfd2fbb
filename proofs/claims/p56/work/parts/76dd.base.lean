/-! WHERE A NEW SET STANDS -/
section
variable {n n' : Nat} {gh gh' : rC_gh} {C C' R R' M M' A A' : rv_Mem}
theorem fr_makes2 (h0 : M 0 0 = nI n) (hn : n < 80) {r b v : Int32} (h : f12_makes M r b = some (v, M')) : M' 2 n = b ∧ ∀ x, x ≠ n → M' 2 x = M 2 x := by
  unfold f12_makes at h
  obtain ⟨M2, h1, h⟩ := o1_inv h
  have f := fr_copies h1
  have g0 : M2 0 0 = nI n := by rw [f 0 (by omega) (by omega)]; exact h0
  have i1 : rv_in (nI n) 82 = true := q_inb (by omega) (by omega)
  have z1 : rv_u M2 1 n r 0 0 = nI n := by rw [mu_ne (by omega)]; exact g0
  have z2 : rv_u (rv_u M2 1 n r) 2 n b 0 0 = nI n := by rw [mu_ne (by omega)]; exact z1
  have z3 : rv_u (rv_u (rv_u M2 1 n r) 2 n b) 5 n (-1) 0 0 = nI n := by rw [mu_ne (by omega)]; exact z2
  have z4 : rv_u (rv_u (rv_u (rv_u M2 1 n r) 2 n b) 5 n (-1)) 8 n (-1) 0 0 = nI n := by rw [mu_ne (by omega)]; exact z3
  rw [g0, if_pos i1, lt_do, q_nc (by omega), z1, if_pos i1, lt_do, q_nc (by omega), z2, if_pos i1, lt_do, q_nc (by omega), z3, if_pos i1, lt_do, q_nc (by omega), z4, lt_do, mu_same] at h
  injection h with h
  injection h with ha hb
  subst hb
  refine ⟨?_, fun x hx => ?_⟩
  · rw [mu_ne (by omega), mu_ne (by omega), mu_ne (by omega), mu_same]
  · rw [mu_ne (by omega), mu_ne (by omega), mu_ne (by omega), mu_ne2 hx, mu_ne (by omega), f 2 (by omega) (by omega)]
theorem X_two {C3 R0 R2 T E1 Rm Rc : rv_Mem} {h k p r b : Nat} (hST : Rn (n + 1) gh' C3 T) (u3 : f12_tells T (nI h) (nI p) = some E1) (u4 : f12_turnsOn E1 (nI h) (nI p) (!true) = some R2) (m3 : f12_makes Rc (nI r) (nI b) = some (nI n, Rm)) (tq : ∀ q, q ≠ 21 → T q = st3R Rm n h p k q) (hRc : ∀ q, q ≠ 3 → q ≠ 4 → Rc q = R0 q) (h0 : R0 0 0 = nI n) (hn : n < 80) (hh : h < gh'.1 0) (hp : p < 6) : R2 2 n = nI b ∧ ∀ x, x ≠ n → R2 2 x = R0 2 x := by
  obtain ⟨y1, y2⟩ := fr_makes2 (by rw [hRc 0 (by omega) (by omega)]; exact h0) hn m3
  have f := fr_tells u3
  have h64 : rv_z (E1 64 0) = false := by rw [f 64 (by omega) (by omega)]; exact hST.h64
  obtain ⟨g1, g2, g3, g4⟩ := T_on hST (fun j hj => f j (by omega) (by omega)) h64 hh hp u4
  have e : ∀ x, R2 2 x = Rm 2 x := fun x => by
    rw [g1 2 (by omega) (by omega), f 2 (by omega) (by omega), tq 2 (by omega)]
    unfold st3R
    rw [mu_ne (by omega), mu_ne (by omega), mu_ne (by omega), mu_ne (by omega)]
  exact ⟨by rw [e, y1], fun x hx => by rw [e, y2 x hx, hRc 2 (by omega) (by omega)]⟩
end

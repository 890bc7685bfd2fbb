/-! WHAT A NEW PATCH SET LEAVES ALONE, IN THE REFERENCE -/
theorem fr_copies_35 : ∀ (fuel : Nat) (M : rv_Mem) (x1 x2 x3 : Int32) (M' : rv_Mem), f12_copies_35 fuel M x1 x2 x3 = some M' → ∀ q, q ≠ 3 → q ≠ 4 → M' q = M q
  | 0, _, _, _, _, _, h => by cases h
  | fuel + 1, M, x1, x2, x3, M', h => by
    intro q h3 h4
    have h : f12_copies_35_s (f12_copies_35 fuel) M x1 x2 x3 = some M' := h
    unfold f12_copies_35_s at h
    split at h
    · split at h
      · split at h
        · rw [lt_do] at h
          rw [fr_copies_35 fuel _ _ _ _ _ h q h3 h4, mu_ne h4]
        · cases h
      · cases h
    · injection h with h
      rw [← h]
theorem fr_copies_2 : ∀ (fuel : Nat) (M : rv_Mem) (x1 x2 x3 : Int32) (M' : rv_Mem), f12_copies_2 fuel M x1 x2 x3 = some M' → ∀ q, q ≠ 3 → q ≠ 4 → M' q = M q
  | 0, _, _, _, _, _, h => by cases h
  | fuel + 1, M, x1, x2, x3, M', h => by
    intro q h3 h4
    have h : f12_copies_2_s (f12_copies_2 fuel) M x1 x2 x3 = some M' := h
    unfold f12_copies_2_s at h
    split at h
    · split at h
      · split at h
        · rw [lt_do] at h
          rw [fr_copies_2 fuel _ _ _ _ _ h q h3 h4, mu_ne h3]
        · cases h
      · cases h
    · exact fr_copies_35 _ _ _ _ _ _ h q h3 h4
theorem fr_copies {M M' : rv_Mem} {a b : Int32} (h : f12_copies M a b = some M') : ∀ q, q ≠ 3 → q ≠ 4 → M' q = M q := fr_copies_2 _ _ _ _ _ _ h
section
variable {n n' : Nat} {gh gh' : rC_gh} {C C' R R' M M' A A' : rv_Mem}
theorem fr_makes (h0 : M 0 0 = nI n) (hn : n < 80) {r b v : Int32} (h : f12_makes M r b = some (v, M')) : v = nI n ∧ (∀ q, q ≠ 0 → q ≠ 1 → q ≠ 2 → q ≠ 3 → q ≠ 4 → q ≠ 5 → q ≠ 8 → M' q = M q) ∧ M' 0 0 = nI (n + 1) ∧ (∀ x, x ≠ n → M' 1 x = M 1 x ∧ M' 5 x = M 5 x) ∧ M' 1 n = r := by
  unfold f12_makes at h
  obtain ⟨M2, h1, h⟩ := o1_inv h
  have f := fr_copies h1
  have g0 : M2 0 0 = nI n := by rw [f 0 (by omega) (by omega)]; exact h0
  have i1 : rv_in (nI n) 82 = true := q_inb (by omega) (by omega)
  have z1 : rv_u M2 1 n r 0 0 = nI n := by rw [mu_ne (by omega)]; exact g0
  have z2 : rv_u (rv_u M2 1 n r) 2 n b 0 0 = nI n := by rw [mu_ne (by omega)]; exact z1
  have z3 : rv_u (rv_u (rv_u M2 1 n r) 2 n b) 5 n (-1) 0 0 = nI n := by rw [mu_ne (by omega)]; exact z2
  have z4 : rv_u (rv_u (rv_u (rv_u M2 1 n r) 2 n b) 5 n (-1)) 8 n (-1) 0 0 = nI n := by rw [mu_ne (by omega)]; exact z3
  rw [g0, if_pos i1, lt_do, q_nc (by omega), z1, if_pos i1, lt_do, q_nc (by omega), z2, if_pos i1, lt_do, q_nc (by omega), z3, if_pos i1, lt_do, q_nc (by omega), z4, lt_do, mu_same] at h
  injection h with h
  injection h with ha hb
  subst hb
  refine ⟨?_, fun q a0 a1 a2 a3 a4 a5 a8 => ?_, ?_, fun x hx => ⟨?_, ?_⟩, ?_⟩
  · rw [← ha, q_1, q_add, q_sub (by omega)]; rfl
  · rw [mu_ne a0, mu_ne a8, mu_ne a5, mu_ne a2, mu_ne a1, f q a3 a4]
  · rw [mu_same, q_1, q_add]
  · rw [mu_ne (by omega), mu_ne (by omega), mu_ne (by omega), mu_ne (by omega), mu_ne2 hx, f 1 (by omega) (by omega)]
  · rw [mu_ne (by omega), mu_ne (by omega), mu_ne2 hx, mu_ne (by omega), mu_ne (by omega), f 5 (by omega) (by omega)]
  · rw [mu_ne (by omega), mu_ne (by omega), mu_ne (by omega), mu_ne (by omega), mu_same]
theorem fr_uploads (h0 : M 0 0 = nI n) (hn : n < 80) {g k b : Nat} (hg : g < 20) (hb : b < n) (hk : M 14 g = nI k) {p a3 v : Int32} (h : f12_uploads M p (nI g) a3 (nI b) = some (v, M')) :
    ∃ N, f12_turnsOn N (nI g) p false = some M' ∧ v = M' 14 g - 1 ∧ (∀ q, ¬ (q ≤ 8 ∨ q = 14 ∨ q = 21 ∨ q = 51) → N q = M q) ∧ N 0 0 = nI (n + 1) ∧ (∀ x, x ≠ n → N 1 x = M 1 x ∧ N 5 x = M 5 x ∧ N 6 x = M 6 x ∧ N 7 x = M 7 x) ∧ N 1 n = M 1 b ∧ N 5 n = nI g ∧ N 6 n = nI k ∧ N 7 n = p ∧ N 14 g = nI (k + 1) ∧ ∀ x, x ≠ g → N 14 x = M 14 x := by
  unfold f12_uploads at h
  obtain ⟨M2, h1, h⟩ := o1_inv h
  have f := fr_copies h1
  have i4 : rv_in (nI b) 82 = true := q_inb (by omega) (by omega)
  have i2 : rv_in (nI g) 20 = true := q_inb (by omega) (by omega)
  have i1 : rv_in (nI n) 82 = true := q_inb (by omega) (by omega)
  rw [if_pos i4, q_nc (by omega)] at h
  obtain ⟨w, M5, h2, h⟩ := o2_inv h
  obtain ⟨rfl, y1, y2, y3, y4⟩ := fr_makes (by rw [f 0 (by omega) (by omega)]; exact h0) hn h2
  simp (disch := omega) only [i1, i2, eq_self, if_true, lt_do, q_nc] at h
  obtain ⟨M11, h3, h⟩ := o1_inv h
  obtain ⟨M13, h4, h⟩ := o1_inv h
  injection h with h
  injection h with ha hb'
  subst hb'
  have t := fr_tells h3
  have e14 : M5 14 g = nI k := by rw [y1 14 (by omega) (by omega) (by omega) (by omega) (by omega) (by omega) (by omega), f 14 (by omega) (by omega)]; exact hk
  refine ⟨M11, h4, ha.symm, fun q hq => ?_, ?_, fun x hx => ⟨?_, ?_, ?_, ?_⟩, ?_, ?_, ?_, ?_, ?_, fun x hx => ?_⟩
  · rw [t q (by omega) (by omega), mu_ne (by omega), mu_ne (by omega), mu_ne (by omega), mu_ne (by omega), y1 q (by omega) (by omega) (by omega) (by omega) (by omega) (by omega) (by omega), f q (by omega) (by omega)]
  · rw [t 0 (by omega) (by omega), mu_ne (by omega), mu_ne (by omega), mu_ne (by omega), mu_ne (by omega)]; exact y2
  · rw [t 1 (by omega) (by omega), mu_ne (by omega), mu_ne (by omega), mu_ne (by omega), mu_ne (by omega), (y3 x hx).1, f 1 (by omega) (by omega)]
  · rw [t 5 (by omega) (by omega), mu_ne (by omega), mu_ne (by omega), mu_ne (by omega), mu_ne2 hx, (y3 x hx).2, f 5 (by omega) (by omega)]
  · rw [t 6 (by omega) (by omega), mu_ne (by omega), mu_ne (by omega), mu_ne2 hx, mu_ne (by omega), y1 6 (by omega) (by omega) (by omega) (by omega) (by omega) (by omega) (by omega), f 6 (by omega) (by omega)]
  · rw [t 7 (by omega) (by omega), mu_ne (by omega), mu_ne2 hx, mu_ne (by omega), mu_ne (by omega), y1 7 (by omega) (by omega) (by omega) (by omega) (by omega) (by omega) (by omega), f 7 (by omega) (by omega)]
  · rw [t 1 (by omega) (by omega), mu_ne (by omega), mu_ne (by omega), mu_ne (by omega), mu_ne (by omega), y4, f 1 (by omega) (by omega)]
  · rw [t 5 (by omega) (by omega), mu_ne (by omega), mu_ne (by omega), mu_ne (by omega), mu_same]
  · rw [t 6 (by omega) (by omega), mu_ne (by omega), mu_ne (by omega), mu_same, mu_ne (by omega)]; exact e14
  · rw [t 7 (by omega) (by omega), mu_ne (by omega), mu_same]
  · rw [t 14 (by omega) (by omega), mu_same, mu_ne (by omega), mu_ne (by omega), mu_ne (by omega), e14, q_1, q_add]
  · rw [t 14 (by omega) (by omega), mu_ne2 hx, mu_ne (by omega), mu_ne (by omega), mu_ne (by omega), y1 14 (by omega) (by omega) (by omega) (by omega) (by omega) (by omega) (by omega), f 14 (by omega) (by omega)]
end

/-! ONE COMMIT IS MADE, ON BOTH SIDES -/
def rowOK (s t : Nat) (C R : rv_Mem) : Prop := ∀ f, f < 4 → ∃ z, z ≤ 10 ∧ C 15 (4 * s + f) = nI z ∧ R 3 (4 * t + f) = nI z ∧ ∀ p, p < z → ∃ v, v < 400 ∧ C 14 (10 * (4 * s + f) + p) = nI v ∧ R 4 (10 * (4 * t + f) + p) = nI v
def mixC (C1 C : rv_Mem) : rv_Mem := fun k => if k < 100 then C1 k else C k
def mixR (R1 R : rv_Mem) : rv_Mem := fun k => if k = 11 ∨ k = 12 ∨ k = 13 ∨ k = 14 ∨ k = 17 then R k else R1 k
theorem mixC_lt {C1 C : rv_Mem} {k : Nat} (h : k < 100) : mixC C1 C k = C1 k := if_pos h
theorem mixC_ge {C1 C : rv_Mem} {k : Nat} (h : ¬ k < 100) : mixC C1 C k = C k := if_neg h
theorem mixR_a {R1 R : rv_Mem} {k : Nat} (h : k = 11 ∨ k = 12 ∨ k = 13 ∨ k = 14 ∨ k = 17) : mixR R1 R k = R k := if_pos h
theorem mixR_b {R1 R : rv_Mem} {k : Nat} (h : ¬ (k = 11 ∨ k = 12 ∨ k = 13 ∨ k = 14 ∨ k = 17)) : mixR R1 R k = R1 k := if_neg h
theorem Rn_make {n : Nat} {gh gh0 : rC_gh} {C C0 R R0 : rv_Mem} (hR : Rn n gh C R) (hn : n < 80) {s b r : Nat} (hs : s < 82) (hsn : s ≠ n) (hb : b < n) (hr : r < 2) (hrb : R 1 b = nI r) (hC0 : ∀ k, k < 100 → C0 k = C k) (hR0 : ∀ k, (k ≤ 2 ∨ (5 ≤ k ∧ k ≤ 52)) → ¬ (k = 11 ∨ k = 12 ∨ k = 13 ∨ k = 14 ∨ k = 17) → R0 k = R k) (h3 : ∀ i, i < 324 → R0 3 i = R 3 i) (h4 : ∀ i, i < 3240 → R0 4 i = R 4 i) (h64 : rv_z (R0 64 0) = false) (hrow : rowOK s 81 C0 R0) :
    ∃ C1 R1, f9_addCommit gh0 C0 (nI s) (nI r) (nI b) = some (nI n, C1) ∧ (∀ k, k ≠ 1 → ¬ (14 ≤ k ∧ k ≤ 19) → C1 k = C0 k) ∧ f12_makes R0 (nI r) (nI b) = some (nI n, R1) ∧ (∀ k, k = 6 ∨ k = 7 ∨ 9 ≤ k → R1 k = R0 k) ∧ Rn (n + 1) gh (mixC C1 C) (mixR R1 R) ∧ (∀ x, x < gh.1 0 → parS (n + 1) (mixR R1 R) x = parS n R x) ∧ R1 5 n = NO ∧ R1 2 n = nI b ∧ R1 1 n = nI r ∧ C1 17 n = nI b ∧ (∀ q c, q = 1 ∨ q = 2 ∨ q = 5 ∨ q = 8 → c ≠ n → R1 q c = R0 q c) ∧ (∀ c, c ≠ n → C1 17 c = C0 17 c) := by
  have hm : C0 1 10 = nI n := by rw [hC0 1 (by omega)]; exact hR.cnt.2.1
  have h0 : R0 0 0 = nI n := by rw [hR0 0 (by omega) (by omega)]; exact hR.cnt.2.2.1
  obtain ⟨Ca, ca1, ca2⟩ := s9_copyFiles (gh := gh0) (C := C0) (a := s) (b := n) hs (by omega) hsn (fun f hf => by obtain ⟨z, z1, z2, -⟩ := hrow f hf; exact ⟨z, z1, z2⟩)
  obtain ⟨Ra, ra1, ra2⟩ := s12_copies (M := R0) (a := 81) (b := n) (by omega) (by omega) (by omega)
  obtain ⟨cc1, cc2, cc3, cc4⟩ := ca2
  obtain ⟨rr1, rr2, rr3, rr4⟩ := ra2
  have hma : Ca 1 10 = nI n := by rw [cc1 1 (by omega) (by omega)]; exact hm
  have h0a : Ra 0 0 = nI n := by rw [rr1 0 (by omega) (by omega)]; exact h0
  let C1 : rv_Mem := rv_u (rv_u (rv_u (rv_u (rv_u Ca 16 n (nI r)) 17 n (nI b)) 18 n NO) 19 n NO) 1 10 (nI (n + 1))
  let R1 : rv_Mem := rv_u (rv_u (rv_u (rv_u (rv_u Ra 1 n (nI r)) 2 n (nI b)) 5 n NO) 8 n NO) 0 0 (nI (n + 1))
  have fC : ∀ k, k ≠ 1 → ¬ (14 ≤ k ∧ k ≤ 19) → C1 k = C0 k := fun k k1 k2 => by
    show rv_u (rv_u (rv_u (rv_u (rv_u Ca 16 n (nI r)) 17 n (nI b)) 18 n NO) 19 n NO) 1 10 (nI (n + 1)) k = _
    rw [mu_ne (by omega), mu_ne (by omega), mu_ne (by omega), mu_ne (by omega), mu_ne (by omega), cc1 k (by omega) (by omega)]
  have fR : ∀ k, k ≠ 0 → k ≠ 1 → k ≠ 2 → k ≠ 5 → k ≠ 8 → R1 k = Ra k := fun k k0 k1 k2 k5 k8 => by
    show rv_u (rv_u (rv_u (rv_u (rv_u Ra 1 n (nI r)) 2 n (nI b)) 5 n NO) 8 n NO) 0 0 (nI (n + 1)) k = _
    rw [mu_ne (by omega), mu_ne (by omega), mu_ne (by omega), mu_ne (by omega), mu_ne (by omega)]
  have fR' : ∀ k, k = 6 ∨ k = 7 ∨ 9 ≤ k → R1 k = R0 k := fun k hk => by rw [fR k (by omega) (by omega) (by omega) (by omega) (by omega), rr1 k (by omega) (by omega)]
  have c14 : C1 14 = Ca 14 := by
    show rv_u (rv_u (rv_u (rv_u (rv_u Ca 16 n (nI r)) 17 n (nI b)) 18 n NO) 19 n NO) 1 10 (nI (n + 1)) 14 = _
    rw [mu_ne (by omega), mu_ne (by omega), mu_ne (by omega), mu_ne (by omega), mu_ne (by omega)]
  have c15 : C1 15 = Ca 15 := by
    show rv_u (rv_u (rv_u (rv_u (rv_u Ca 16 n (nI r)) 17 n (nI b)) 18 n NO) 19 n NO) 1 10 (nI (n + 1)) 15 = _
    rw [mu_ne (by omega), mu_ne (by omega), mu_ne (by omega), mu_ne (by omega), mu_ne (by omega)]
  have r3 := fR 3 (by omega) (by omega) (by omega) (by omega) (by omega)
  have r4 := fR 4 (by omega) (by omega) (by omega) (by omega) (by omega)
  have c16 : C1 16 n = nI r := by
    show rv_u (rv_u (rv_u (rv_u (rv_u Ca 16 n (nI r)) 17 n (nI b)) 18 n NO) 19 n NO) 1 10 (nI (n + 1)) 16 n = _
    rw [mu_ne (by omega), mu_ne (by omega), mu_ne (by omega), mu_ne (by omega), mu_same]
  have c17 : C1 17 n = nI b := by
    show rv_u (rv_u (rv_u (rv_u (rv_u Ca 16 n (nI r)) 17 n (nI b)) 18 n NO) 19 n NO) 1 10 (nI (n + 1)) 17 n = _
    rw [mu_ne (by omega), mu_ne (by omega), mu_ne (by omega), mu_same]
  have c18 : C1 18 n = NO := by
    show rv_u (rv_u (rv_u (rv_u (rv_u Ca 16 n (nI r)) 17 n (nI b)) 18 n NO) 19 n NO) 1 10 (nI (n + 1)) 18 n = _
    rw [mu_ne (by omega), mu_ne (by omega), mu_same]
  have c19 : C1 19 n = NO := by
    show rv_u (rv_u (rv_u (rv_u (rv_u Ca 16 n (nI r)) 17 n (nI b)) 18 n NO) 19 n NO) 1 10 (nI (n + 1)) 19 n = _
    rw [mu_ne (by omega), mu_same]
  have c1 : C1 1 10 = nI (n + 1) := by
    show rv_u (rv_u (rv_u (rv_u (rv_u Ca 16 n (nI r)) 17 n (nI b)) 18 n NO) 19 n NO) 1 10 (nI (n + 1)) 1 10 = _
    rw [mu_same]
  have cO : ∀ k, 16 ≤ k → k ≤ 19 → ∀ c, c ≠ n → C1 k c = C0 k c := fun k k1 k2 c hc => by
    show rv_u (rv_u (rv_u (rv_u (rv_u Ca 16 n (nI r)) 17 n (nI b)) 18 n NO) 19 n NO) 1 10 (nI (n + 1)) k c = _
    rw [mu_ne (by omega), mu_ne2 (by omega), mu_ne2 (by omega), mu_ne2 (by omega), mu_ne2 (by omega), cc1 k (by omega) (by omega)]
  have e1 : R1 1 n = nI r := by
    show rv_u (rv_u (rv_u (rv_u (rv_u Ra 1 n (nI r)) 2 n (nI b)) 5 n NO) 8 n NO) 0 0 (nI (n + 1)) 1 n = _
    rw [mu_ne (by omega), mu_ne (by omega), mu_ne (by omega), mu_ne (by omega), mu_same]
  have e2 : R1 2 n = nI b := by
    show rv_u (rv_u (rv_u (rv_u (rv_u Ra 1 n (nI r)) 2 n (nI b)) 5 n NO) 8 n NO) 0 0 (nI (n + 1)) 2 n = _
    rw [mu_ne (by omega), mu_ne (by omega), mu_ne (by omega), mu_same]
  have e5 : R1 5 n = NO := by
    show rv_u (rv_u (rv_u (rv_u (rv_u Ra 1 n (nI r)) 2 n (nI b)) 5 n NO) 8 n NO) 0 0 (nI (n + 1)) 5 n = _
    rw [mu_ne (by omega), mu_ne (by omega), mu_same]
  have e8 : R1 8 n = NO := by
    show rv_u (rv_u (rv_u (rv_u (rv_u Ra 1 n (nI r)) 2 n (nI b)) 5 n NO) 8 n NO) 0 0 (nI (n + 1)) 8 n = _
    rw [mu_ne (by omega), mu_same]
  have e0 : R1 0 0 = nI (n + 1) := by
    show rv_u (rv_u (rv_u (rv_u (rv_u Ra 1 n (nI r)) 2 n (nI b)) 5 n NO) 8 n NO) 0 0 (nI (n + 1)) 0 0 = _
    rw [mu_same]
  have rO : ∀ q c, q = 1 ∨ q = 2 ∨ q = 5 ∨ q = 8 → c ≠ n → R1 q c = R0 q c := fun q c hq hc => by
    show rv_u (rv_u (rv_u (rv_u (rv_u Ra 1 n (nI r)) 2 n (nI b)) 5 n NO) 8 n NO) 0 0 (nI (n + 1)) q c = _
    rw [mu_ne (by omega), mu_ne2 (by omega), mu_ne2 (by omega), mu_ne2 (by omega), mu_ne2 (by omega), rr1 q (by omega) (by omega)]
  have key := Rn_commit (C' := mixC C1 C) (R' := mixR R1 R) hR hn (fun k k1 k2 => ?_) (by rw [mixC_lt (by omega)]; exact c1) (fun k k1 k2 c hc => by rw [mixC_lt (by omega), cO k k1 k2 c hc, hC0 k (by omega)]) (fun k hk => ?_) (by rw [mixR_b (by omega)]; exact e0) (by rw [mixR_b (by omega), fR' 64 (by omega)]; exact h64) (fun k hk c hc => by rw [mixR_b (by omega), rO k c hk hc, hR0 k (by omega) (by omega)]) ?_ (fun c f hc hf => ?_) ⟨r, b, hr, hb, by rw [mixC_lt (by omega)]; exact c16, by rw [mixR_b (by omega)]; exact e1, by rw [mixC_lt (by omega)]; exact c17, by rw [mixR_b (by omega)]; exact e2, hrb⟩ (by rw [mixC_lt (by omega), mixR_b (by omega), c18, e8]) (by rw [mixC_lt (by omega)]; exact c19) (by rw [mixR_b (by omega)]; exact e5)
  · refine ⟨C1, R1, ?_, fC, ?_, fR', key.1, key.2, e5, e2, e1, c17, rO, fun c hc => cO 17 (by omega) (by omega) c hc⟩
    · unfold f9_addCommit f9_isFull
      rw [hm, q_80, if_neg (by rw [q_le (by omega) (by omega)]; omega), o1_some, if_neg (by simp), ca1, o1_some]
      simp (disch := omega) only [q_in, if_pos, q_nc, lt_do, mu_ne, hma, q_1, q_add, q_no]
      rfl
    · unfold f12_makes
      rw [h0, q_81, ra1, o1_some]
      simp (disch := omega) only [q_in, if_pos, q_nc, lt_do, mu_ne, h0a, q_1, q_add, q_no, mu_same]
      rw [q_sub (by omega)]
      rfl
  · by_cases hk : k < 100
    · rw [mixC_lt hk, fC k k1 k2, hC0 k hk]
    · rw [mixC_ge hk]
  · by_cases hk2 : k = 11 ∨ k = 12 ∨ k = 13 ∨ k = 14 ∨ k = 17
    · rw [mixR_a hk2]
    · rw [mixR_b hk2, fR' k (by omega), hR0 k (by omega) hk2]
  · rw [mixC_lt (by omega), mixC_lt (by omega), mixR_b (by omega), mixR_b (by omega), c14, c15, r3, r4]
    intro c hc f hf
    by_cases e : c = n
    · subst e
      obtain ⟨z, z1, z2, z3, z4⟩ := hrow f hf
      refine ⟨z, z1, by rw [(cc4 f hf).1]; exact z2, by rw [(rr4 f hf).1]; exact z3, fun p hp => ?_⟩
      obtain ⟨v, v1, v2, v3⟩ := z4 p hp
      exact ⟨v, v1, by rw [(cc4 f hf).2 p z z2 z1 hp]; exact v2, by rw [(rr4 f hf).2 p z z3 z1 hp]; exact v3⟩
    · obtain ⟨z, z1, z2, z3, z4⟩ := hR.fil c (by omega) f hf
      refine ⟨z, z1, by rw [cc3 _ (by omega), hC0 15 (by omega)]; exact z2, by rw [rr3 _ (by omega), h3 _ (by omega)]; exact z3, fun p hp => ?_⟩
      obtain ⟨v, v1, v2, v3⟩ := z4 p hp
      exact ⟨v, v1, by rw [cc2 _ (by omega), hC0 14 (by omega)]; exact v2, by rw [rr2 _ (by omega), h4 _ (by omega)]; exact v3⟩
  · have s3 : mixR R1 R 3 (4 * c + f) = R 3 (4 * c + f) := by rw [mixR_b (by omega), r3, rr3 _ (by omega), h3 _ (by omega)]
    refine ⟨?_, s3⟩
    obtain ⟨z, z1, -, z3, -⟩ := hR.fil c (Or.inl hc) f hf
    unfold fl
    rw [s3, z3, q_nc (by omega)]
    apply List.map_congr_left
    intro p hp
    have hp := List.mem_range.mp hp
    rw [mixR_b (by omega), r4, rr2 _ (by omega), h4 _ (by omega)]

/-! LANDING: a commit is made in the middle -/
theorem Rn_makeG {n : Nat} {gh gh0 : rC_gh} {C C0 R R0 : rv_Mem} (hR : Rn n gh C R) (hn : n < 80) {s b r : Nat} (hs : s < 82) (hsn : s ≠ n) (hb : b < n) (hr : r < 2) (hrb : R 1 b = nI r) (hC0 : ∀ k, k = 1 ∨ (14 ≤ k ∧ k ≤ 19) → C0 k = C k) (hR0 : ∀ k, k ≤ 2 ∨ k = 5 ∨ k = 8 → R0 k = R k) (h3 : ∀ i, i < 324 → R0 3 i = R 3 i) (h4 : ∀ i, i < 3240 → R0 4 i = R 4 i) (hrow : rowOK s 81 C0 R0) :
    ∃ C1 R1, f9_addCommit gh0 C0 (nI s) (nI r) (nI b) = some (nI n, C1) ∧ (∀ k, k ≠ 1 → ¬ (14 ≤ k ∧ k ≤ 19) → C1 k = C0 k) ∧ f12_makes R0 (nI r) (nI b) = some (nI n, R1) ∧ (∀ k, k = 6 ∨ k = 7 ∨ 9 ≤ k → R1 k = R0 k) ∧ (∀ C' R' : rv_Mem, (∀ k, k = 1 ∨ (14 ≤ k ∧ k ≤ 19) → C' k = C1 k) → (∀ k, k ≠ 1 → ¬ (14 ≤ k ∧ k ≤ 19) → C' k = C k) → (∀ k, k ≤ 5 ∨ k = 8 → R' k = R1 k) → (∀ k, k = 6 ∨ k = 7 ∨ (9 ≤ k ∧ k ≤ 52) → R' k = R k) → rv_z (R' 64 0) = false → Rn (n + 1) gh C' R' ∧ ∀ x, x < gh.1 0 → parS (n + 1) R' x = parS n R x) ∧ R1 5 n = NO ∧ R1 1 n = nI r ∧ (∀ q c, q = 1 ∨ q = 2 ∨ q = 5 ∨ q = 8 → c ≠ n → R1 q c = R0 q c) ∧ (∀ k, 16 ≤ k → k ≤ 19 → ∀ c, c ≠ n → C1 k c = C0 k c) ∧ (∀ c, c < n ∨ c = 80 → ∀ f, f < 4 → C1 15 (4 * c + f) = C 15 (4 * c + f) ∧ R1 3 (4 * c + f) = R 3 (4 * c + f) ∧ ∀ p, p < 10 → C1 14 (10 * (4 * c + f) + p) = C 14 (10 * (4 * c + f) + p) ∧ R1 4 (10 * (4 * c + f) + p) = R 4 (10 * (4 * c + f) + p)) := by
  have hm : C0 1 10 = nI n := by rw [hC0 1 (by omega)]; exact hR.cnt.2.1
  have h0 : R0 0 0 = nI n := by rw [hR0 0 (by omega)]; exact hR.cnt.2.2.1
  obtain ⟨Ca, ca1, ca2⟩ := s9_copyFiles (gh := gh0) (C := C0) (a := s) (b := n) hs (by omega) hsn (fun f hf => by obtain ⟨z, z1, z2, -⟩ := hrow f hf; exact ⟨z, z1, z2⟩)
  obtain ⟨Ra, ra1, ra2⟩ := s12_copies (M := R0) (a := 81) (b := n) (by omega) (by omega) (by omega)
  obtain ⟨cc1, cc2, cc3, cc4⟩ := ca2
  obtain ⟨rr1, rr2, rr3, rr4⟩ := ra2
  have hma : Ca 1 10 = nI n := by rw [cc1 1 (by omega) (by omega)]; exact hm
  have h0a : Ra 0 0 = nI n := by rw [rr1 0 (by omega) (by omega)]; exact h0
  let C1 : rv_Mem := rv_u (rv_u (rv_u (rv_u (rv_u Ca 16 n (nI r)) 17 n (nI b)) 18 n NO) 19 n NO) 1 10 (nI (n + 1))
  let R1 : rv_Mem := rv_u (rv_u (rv_u (rv_u (rv_u Ra 1 n (nI r)) 2 n (nI b)) 5 n NO) 8 n NO) 0 0 (nI (n + 1))
  have fC : ∀ k, k ≠ 1 → ¬ (14 ≤ k ∧ k ≤ 19) → C1 k = C0 k := fun k k1 k2 => by
    show rv_u (rv_u (rv_u (rv_u (rv_u Ca 16 n (nI r)) 17 n (nI b)) 18 n NO) 19 n NO) 1 10 (nI (n + 1)) k = _
    rw [mu_ne (by omega), mu_ne (by omega), mu_ne (by omega), mu_ne (by omega), mu_ne (by omega), cc1 k (by omega) (by omega)]
  have fR : ∀ k, k ≠ 0 → k ≠ 1 → k ≠ 2 → k ≠ 5 → k ≠ 8 → R1 k = Ra k := fun k k0 k1 k2 k5 k8 => by
    show rv_u (rv_u (rv_u (rv_u (rv_u Ra 1 n (nI r)) 2 n (nI b)) 5 n NO) 8 n NO) 0 0 (nI (n + 1)) k = _
    rw [mu_ne (by omega), mu_ne (by omega), mu_ne (by omega), mu_ne (by omega), mu_ne (by omega)]
  have fR' : ∀ k, k = 6 ∨ k = 7 ∨ 9 ≤ k → R1 k = R0 k := fun k hk => by rw [fR k (by omega) (by omega) (by omega) (by omega) (by omega), rr1 k (by omega) (by omega)]
  have c14 : C1 14 = Ca 14 := by
    show rv_u (rv_u (rv_u (rv_u (rv_u Ca 16 n (nI r)) 17 n (nI b)) 18 n NO) 19 n NO) 1 10 (nI (n + 1)) 14 = _
    rw [mu_ne (by omega), mu_ne (by omega), mu_ne (by omega), mu_ne (by omega), mu_ne (by omega)]
  have c15 : C1 15 = Ca 15 := by
    show rv_u (rv_u (rv_u (rv_u (rv_u Ca 16 n (nI r)) 17 n (nI b)) 18 n NO) 19 n NO) 1 10 (nI (n + 1)) 15 = _
    rw [mu_ne (by omega), mu_ne (by omega), mu_ne (by omega), mu_ne (by omega), mu_ne (by omega)]
  have r3 := fR 3 (by omega) (by omega) (by omega) (by omega) (by omega)
  have r4 := fR 4 (by omega) (by omega) (by omega) (by omega) (by omega)
  have c16 : C1 16 n = nI r := by
    show rv_u (rv_u (rv_u (rv_u (rv_u Ca 16 n (nI r)) 17 n (nI b)) 18 n NO) 19 n NO) 1 10 (nI (n + 1)) 16 n = _
    rw [mu_ne (by omega), mu_ne (by omega), mu_ne (by omega), mu_ne (by omega), mu_same]
  have c17 : C1 17 n = nI b := by
    show rv_u (rv_u (rv_u (rv_u (rv_u Ca 16 n (nI r)) 17 n (nI b)) 18 n NO) 19 n NO) 1 10 (nI (n + 1)) 17 n = _
    rw [mu_ne (by omega), mu_ne (by omega), mu_ne (by omega), mu_same]
  have c18 : C1 18 n = NO := by
    show rv_u (rv_u (rv_u (rv_u (rv_u Ca 16 n (nI r)) 17 n (nI b)) 18 n NO) 19 n NO) 1 10 (nI (n + 1)) 18 n = _
    rw [mu_ne (by omega), mu_ne (by omega), mu_same]
  have c19 : C1 19 n = NO := by
    show rv_u (rv_u (rv_u (rv_u (rv_u Ca 16 n (nI r)) 17 n (nI b)) 18 n NO) 19 n NO) 1 10 (nI (n + 1)) 19 n = _
    rw [mu_ne (by omega), mu_same]
  have c1 : C1 1 10 = nI (n + 1) := by
    show rv_u (rv_u (rv_u (rv_u (rv_u Ca 16 n (nI r)) 17 n (nI b)) 18 n NO) 19 n NO) 1 10 (nI (n + 1)) 1 10 = _
    rw [mu_same]
  have cO : ∀ k, 16 ≤ k → k ≤ 19 → ∀ c, c ≠ n → C1 k c = C0 k c := fun k k1 k2 c hc => by
    show rv_u (rv_u (rv_u (rv_u (rv_u Ca 16 n (nI r)) 17 n (nI b)) 18 n NO) 19 n NO) 1 10 (nI (n + 1)) k c = _
    rw [mu_ne (by omega), mu_ne2 (by omega), mu_ne2 (by omega), mu_ne2 (by omega), mu_ne2 (by omega), cc1 k (by omega) (by omega)]
  have e1 : R1 1 n = nI r := by
    show rv_u (rv_u (rv_u (rv_u (rv_u Ra 1 n (nI r)) 2 n (nI b)) 5 n NO) 8 n NO) 0 0 (nI (n + 1)) 1 n = _
    rw [mu_ne (by omega), mu_ne (by omega), mu_ne (by omega), mu_ne (by omega), mu_same]
  have e2 : R1 2 n = nI b := by
    show rv_u (rv_u (rv_u (rv_u (rv_u Ra 1 n (nI r)) 2 n (nI b)) 5 n NO) 8 n NO) 0 0 (nI (n + 1)) 2 n = _
    rw [mu_ne (by omega), mu_ne (by omega), mu_ne (by omega), mu_same]
  have e5 : R1 5 n = NO := by
    show rv_u (rv_u (rv_u (rv_u (rv_u Ra 1 n (nI r)) 2 n (nI b)) 5 n NO) 8 n NO) 0 0 (nI (n + 1)) 5 n = _
    rw [mu_ne (by omega), mu_ne (by omega), mu_same]
  have e8 : R1 8 n = NO := by
    show rv_u (rv_u (rv_u (rv_u (rv_u Ra 1 n (nI r)) 2 n (nI b)) 5 n NO) 8 n NO) 0 0 (nI (n + 1)) 8 n = _
    rw [mu_ne (by omega), mu_same]
  have e0 : R1 0 0 = nI (n + 1) := by
    show rv_u (rv_u (rv_u (rv_u (rv_u Ra 1 n (nI r)) 2 n (nI b)) 5 n NO) 8 n NO) 0 0 (nI (n + 1)) 0 0 = _
    rw [mu_same]
  have rO : ∀ q c, q = 1 ∨ q = 2 ∨ q = 5 ∨ q = 8 → c ≠ n → R1 q c = R0 q c := fun q c hq hc => by
    show rv_u (rv_u (rv_u (rv_u (rv_u Ra 1 n (nI r)) 2 n (nI b)) 5 n NO) 8 n NO) 0 0 (nI (n + 1)) q c = _
    rw [mu_ne (by omega), mu_ne2 (by omega), mu_ne2 (by omega), mu_ne2 (by omega), mu_ne2 (by omega), rr1 q (by omega) (by omega)]
  refine ⟨C1, R1, ?_, fC, ?_, fR', fun C' R' y1 y2 y3 y4 y64 => ?_, e5, e1, rO, cO, fun c hc f hf => ⟨?_, ?_, fun p hp => ⟨?_, ?_⟩⟩⟩
  · unfold f9_addCommit f9_isFull
    rw [hm, q_80, if_neg (by rw [q_le (by omega) (by omega)]; omega), o1_some, if_neg (by simp), ca1, o1_some]
    simp (disch := omega) only [q_in, if_pos, q_nc, lt_do, mu_ne, hma, q_1, q_add, q_no]
    rfl
  · unfold f12_makes
    rw [h0, q_81, ra1, o1_some]
    simp (disch := omega) only [q_in, if_pos, q_nc, lt_do, mu_ne, h0a, q_1, q_add, q_no, mu_same]
    rw [q_sub (by omega)]
    rfl
  · refine Rn_commit hR hn y2 (by rw [y1 1 (by omega)]; exact c1) (fun k k1 k2 c hc => by rw [y1 k (by omega), cO k k1 k2 c hc, hC0 k (by omega)]) y4 (by rw [y3 0 (by omega)]; exact e0) y64 (fun k hk c hc => by rw [y3 k (by omega), rO k c hk hc, hR0 k (by omega)]) ?_ (fun c f hc hf => ?_) ⟨r, b, hr, hb, by rw [y1 16 (by omega)]; exact c16, by rw [y3 1 (by omega)]; exact e1, by rw [y1 17 (by omega)]; exact c17, by rw [y3 2 (by omega)]; exact e2, hrb⟩ (by rw [y1 18 (by omega), y3 8 (by omega), c18, e8]) (by rw [y1 19 (by omega)]; exact c19) (by rw [y3 5 (by omega)]; exact e5)
    · rw [y1 14 (by omega), y1 15 (by omega), y3 3 (by omega), y3 4 (by omega), c14, c15, r3, r4]
      intro c hc f hf
      by_cases e : c = n
      · subst e
        obtain ⟨z, z1, z2, z3, z4⟩ := hrow f hf
        refine ⟨z, z1, by rw [(cc4 f hf).1]; exact z2, by rw [(rr4 f hf).1]; exact z3, fun p hp => ?_⟩
        obtain ⟨v, v1, v2, v3⟩ := z4 p hp
        exact ⟨v, v1, by rw [(cc4 f hf).2 p z z2 z1 hp]; exact v2, by rw [(rr4 f hf).2 p z z3 z1 hp]; exact v3⟩
      · obtain ⟨z, z1, z2, z3, z4⟩ := hR.fil c (by omega) f hf
        refine ⟨z, z1, by rw [cc3 _ (by omega), hC0 15 (by omega)]; exact z2, by rw [rr3 _ (by omega), h3 _ (by omega)]; exact z3, fun p hp => ?_⟩
        obtain ⟨v, v1, v2, v3⟩ := z4 p hp
        exact ⟨v, v1, by rw [cc2 _ (by omega), hC0 14 (by omega)]; exact v2, by rw [rr2 _ (by omega), h4 _ (by omega)]; exact v3⟩
    · have s3 : R' 3 (4 * c + f) = R 3 (4 * c + f) := by rw [y3 3 (by omega), r3, rr3 _ (by omega), h3 _ (by omega)]
      refine ⟨?_, s3⟩
      obtain ⟨z, z1, -, z3, -⟩ := hR.fil c (Or.inl hc) f hf
      unfold fl
      rw [s3, z3, q_nc (by omega)]
      apply List.map_congr_left
      intro p hp
      have hp := List.mem_range.mp hp
      rw [y3 4 (by omega), r4, rr2 _ (by omega), h4 _ (by omega)]
  · rw [c15, cc3 _ (by omega), hC0 15 (by omega)]
  · rw [r3, rr3 _ (by omega), h3 _ (by omega)]
  · rw [c14, cc2 _ (by omega), hC0 14 (by omega)]
  · rw [r4, rr2 _ (by omega), h4 _ (by omega)]

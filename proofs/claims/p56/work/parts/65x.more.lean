/-! A COMMENT MORE, A FINDING MORE -/
theorem Rn_obj {n : Nat} {gh gh' : rC_gh} {C C' R R' : rv_Mem} (h : Rn n gh C R) (g0 : gh'.1 0 = gh.1 0) (hC : ∀ k, k < 200 → C' k = C k) (hR : ∀ k, k ≤ 23 ∨ (41 ≤ k ∧ k ≤ 52) → R' k = R k) (h64 : rv_z (R' 64 0) = false) (cnt : gh'.1 1 ≤ 60 ∧ R' 24 0 = nI (gh'.1 1) ∧ gh'.1 2 ≤ 40 ∧ R' 34 0 = nI (gh'.1 2))
    (rev : A_rev n (gh.1 0) (gh'.1 1) C' R') (cmt : A_cmt (gh.1 0) (gh'.1 1) n gh' C' R') (fnd : A_fnd (gh.1 0) (gh'.1 2) n C' R') (ok : rC_ok gh' = true) : Rn n gh' C' R' := by
  have hn := h.n80
  have hc20 := h.ch20
  have c := fun k (hk : k < 200) => hC k hk
  have e := fun k (hk : k ≤ 23 ∨ (41 ≤ k ∧ k ≤ 52)) => hR k hk
  have efl : ∀ c f, fl R' c f = fl R c f := fun c f => by unfold fl; rw [e 3 (by omega), e 4 (by omega)]
  have eki : ∀ c, kindS n R' c = kindS n R c := fun c => by unfold kindS; simp only [e 2 (by omega), e 5 (by omega), e 6 (by omega), efl]
  have epa : ∀ q, parS n R' q = parS n R q := fun q => by unfold parS curS; rw [e 2 (by omega), e 5 (by omega), e 6 (by omega), e 14 (by omega)]
  unfold Rn
  rw [g0]
  refine ⟨?_, by rw [c 14 (by omega), c 15 (by omega), e 3 (by omega), e 4 (by omega)]; exact h.fil, by rw [c 16 (by omega), c 17 (by omega), c 18 (by omega), e 1 (by omega), e 2 (by omega), e 8 (by omega)]; exact h.bas, by rw [c 22 (by omega), c 51 (by omega), e 1 (by omega), e 9 (by omega), e 10 (by omega)]; exact h.tip, ?_, ?_, ?_, ?_, ?_, ?_, rev, ?_, cmt, fnd, ?_, ?_, ?_, ok⟩
  · obtain ⟨b1, b2, b3, b4, b5, b6, b7, b8, b9, -⟩ := h.cnt
    exact ⟨b1, by rw [c 1 (by omega)]; exact b2, by rw [e 0 (by omega)]; exact b3, by rw [g0]; exact b4, by rw [e 11 (by omega), g0]; exact b5, cnt.1, cnt.2.1, cnt.2.2.1, cnt.2.2.2, h64⟩
  · rw [c 19 (by omega), c 20 (by omega), e 5 (by omega), e 6 (by omega), e 7 (by omega), e 14 (by omega)]
    intro x hx
    rcases h.own x hx with a | ⟨q, s, p, a1, a2⟩
    · exact Or.inl a
    · exact Or.inr ⟨q, s, p, a1, by rw [c (120 + q) (by omega)]; exact a2⟩
  · rw [e 5 (by omega), e 6 (by omega), e 14 (by omega)]
    obtain ⟨s1, s2⟩ := h.set
    refine ⟨fun q hq => ?_, fun q hq hq2 => by rw [c 23 (by omega)]; exact s2 q hq hq2⟩
    rw [c (120 + q) (by omega), c (100 + q) (by omega), c 23 (by omega)]
    exact s1 q hq
  · rw [chg_iff]
    intro q hq
    rw [c (100 + q) (by omega)]
    exact chg1_cong (e 5 (by omega)) (e 1 (by omega)) (e 52 (by omega)) (fun k h1 h2 => by rw [e k (by omega)]) (h.chg q hq)
  · intro q h1 h2
    rw [e 15 (by omega), e 16 (by omega), e 19 (by omega), e 20 (by omega)]
    exact h.nw q h1 h2
  · have a := h.par
    unfold A_par at a ⊢
    simp only [epa]
    rw [e 5 (by omega), e 9 (by omega), e 13 (by omega)]
    exact a
  · intro x hx ho
    rw [c 21 (by omega), eki]
    rw [e 5 (by omega)] at ho
    exact h.kin x hx ho
  · rw [c 41 (by omega), c 42 (by omega), e 22 (by omega), e 23 (by omega)]; exact h.vot
  · have := h.ols
    unfold A_ols at this ⊢
    rw [c 48 (by omega), c 49 (by omega), c 50 (by omega), c 5 (by omega), e 41 (by omega), e 42 (by omega), e 43 (by omega), e 44 (by omega)]; exact this
  · have := h.rul
    unfold A_rul at this ⊢
    rw [c 4 (by omega), c 43 (by omega), c 44 (by omega), c 45 (by omega), c 46 (by omega), c 47 (by omega), e 45 (by omega), e 46 (by omega), e 47 (by omega), e 48 (by omega), e 49 (by omega)]; exact this
  · have := h.mis
    unfold A_mis at this ⊢
    rw [c 12 (by omega), c 13 (by omega), c 0 (by omega), e 50 (by omega), e 51 (by omega), e 52 (by omega)]; exact this
theorem is8_up {gh : rC_gh} {i pk k : Nat} (hi : i < 3) (h : rC_is gh 8 k = true) : rC_is (rC_gi gh i pk) 8 k = true := by
  unfold rC_is at h ⊢
  rw [Bool.and_eq_true] at h ⊢
  exact ⟨rC_dm_up hi h.1, h.2⟩
theorem is8_ne {gh : rC_gh} {k : Nat} (h1 : gh.1 1 < 60) (h : rC_is gh 8 k = true) : k ≠ 300 + gh.1 1 := by
  rintro rfl
  unfold rC_is rC_dm at h
  rw [if_neg (by omega), if_neg (by omega), if_neg (by omega), if_neg (by omega), if_pos (by omega)] at h
  simp at h
theorem Rn_cmt1 {n : Nat} {gh : rC_gh} {C C' R R' : rv_Mem} {pk : Nat} (h : Rn n gh C R) (hcm : gh.1 1 < 60) (hC : ∀ k, k ≠ 200 + gh.1 1 → k ≠ 300 + gh.1 1 → C' k = C k) (hR : ∀ k, k ≤ 23 ∨ (34 ≤ k ∧ k ≤ 52) → R' k = R k) (hq : ∀ k i, 25 ≤ k → k ≤ 33 → i ≠ gh.1 1 → R' k i = R k i) (h24 : R' 24 0 = nI (gh.1 1 + 1)) (h64 : rv_z (R' 64 0) = false) (h32 : rv_z (R' 32 (gh.1 1)) = true)
    (hpk : rC_is (rC_gi gh 1 pk) 8 pk = true)
    (new : (∃ p, p < 6 ∧ C' (200 + gh.1 1) 0 = nI p ∧ R' 25 (gh.1 1) = nI p) ∧ ((R' 31 (gh.1 1) = NO ∧ C' (200 + gh.1 1) 1 = nI (gh.1 1)) ∨ ∃ t, t < gh.1 1 ∧ R' 31 (gh.1 1) = nI t ∧ C' (200 + gh.1 1) 1 = nI t ∧ R 31 t = NO) ∧
      rv_z (C' (200 + gh.1 1) 2) = rv_z (R' 33 (gh.1 1)) ∧ rv_z (C' (200 + gh.1 1) 4) = false ∧
      ∃ q s f a k, q < gh.1 0 ∧ s < (R 14 q).toNatClampNeg ∧ f < 4 ∧ 1 ≤ k ∧ C' pk 0 = nI q ∧ R' 26 (gh.1 1) = nI q ∧ C' pk 1 = nI s ∧ R' 27 (gh.1 1) = nI s ∧ C' pk 2 = nI f ∧ R' 28 (gh.1 1) = nI f ∧ C' pk 3 = nI a ∧ R' 29 (gh.1 1) = nI a ∧ C' pk 4 = nI k ∧ R' 30 (gh.1 1) = nI k ∧ a + k ≤ (R 3 (4 * (mAt n (R 5) (R 6) (nI q) (nI s)).toNatClampNeg + f)).toNatClampNeg) : Rn n (rC_gi gh 1 pk) C' R' := by
  have hc20 := h.ch20
  have e := fun k (hk : k ≤ 23 ∨ (34 ≤ k ∧ k ≤ 52)) => hR k hk
  have g11 : (rC_gi gh 1 pk).1 1 = gh.1 1 + 1 := rfl
  have g12 : (rC_gi gh 1 pk).1 2 = gh.1 2 := rfl
  have old : ∀ j, j < gh.1 1 → (rC_gi gh 1 pk).2 (200 + j) = gh.2 (200 + j) := fun j hj => by
    rw [rC_gi2, if_neg (by omega)]
  have nw : (rC_gi gh 1 pk).2 (200 + gh.1 1) = pk := by rw [rC_gi2, if_pos ⟨rfl, rfl⟩]
  refine Rn_obj h rfl (fun k hk => hC k (by omega) (by omega)) (fun k hk => hR k (by omega)) h64 ⟨by rw [g11]; omega, by rw [g11]; exact h24, h.cnt.2.2.2.2.2.2.2.1, by rw [g12, e 34 (by omega)]; exact h.cnt.2.2.2.2.2.2.2.2.1⟩ ?_ ?_ ?_ ?_
  · intro q hq2 i hi
    rw [hC _ (by omega) (by omega), h.rev q hq2 i hi]
    unfold revB
    rw [g11, any_succ, h32]
    have cg : ∀ k, k < gh.1 1 → (decide (R' 26 k = nI q) && !rv_z (R' 32 k) && decide (R' 25 k = nI i)) = (decide (R 26 k = nI q) && !rv_z (R 32 k) && decide (R 25 k = nI i)) := fun k hk => by
      rw [hq 26 k (by omega) (by omega) (by omega), hq 32 k (by omega) (by omega) (by omega), hq 25 k (by omega) (by omega) (by omega)]
    have ca : (List.range (gh.1 1)).any (fun k => decide (R' 26 k = nI q) && !rv_z (R' 32 k) && decide (R' 25 k = nI i)) = (List.range (gh.1 1)).any (fun k => decide (R 26 k = nI q) && !rv_z (R 32 k) && decide (R 25 k = nI i)) := by
      rw [Bool.eq_iff_iff, List.any_eq_true, List.any_eq_true]
      exact ⟨fun ⟨k, k1, k2⟩ => ⟨k, k1, by rw [cg k (by simpa using k1)] at k2; exact k2⟩, fun ⟨k, k1, k2⟩ => ⟨k, k1, by rw [cg k (by simpa using k1)]; exact k2⟩⟩
    rw [ca, e 5 (by omega), e 12 (by omega), e 19 (by omega), e 22 (by omega)]
    simp
  · intro j hj
    rw [g11] at hj
    rw [e 14 (by omega), e 3 (by omega), e 5 (by omega), e 6 (by omega)]
    by_cases ej : j = gh.1 1
    · subst ej
      rw [nw]
      obtain ⟨n1, n2, n3, n4, n5⟩ := new
      refine ⟨n1, ?_, n3, by rw [h32, n4]; rfl, hpk, n5⟩
      rcases n2 with n2 | ⟨t, t1, t2, t3, t4⟩
      · exact Or.inl n2
      · exact Or.inr ⟨t, t1, t2, t3, by rw [hq 31 t (by omega) (by omega) (by omega)]; exact t4⟩
    · have hj2 : j < gh.1 1 := by omega
      obtain ⟨o1, o2, o3, o4, o5, o6⟩ := h.cmt j hj2
      have ne := is8_ne hcm o5
      have ge := ok_pl2 o5
      rw [old j hj2, hC (200 + j) (by omega) (by omega), hC (gh.2 (200 + j)) (by have := hcm; omega) ne, hq 25 j (by omega) (by omega) ej, hq 31 j (by omega) (by omega) ej, hq 33 j (by omega) (by omega) ej, hq 32 j (by omega) (by omega) ej, hq 26 j (by omega) (by omega) ej, hq 27 j (by omega) (by omega) ej, hq 28 j (by omega) (by omega) ej, hq 29 j (by omega) (by omega) ej, hq 30 j (by omega) (by omega) ej]
      refine ⟨o1, ?_, o3, o4, is8_up (by omega) o5, o6⟩
      rcases o2 with o2 | ⟨t, t1, t2, t3, t4⟩
      · exact Or.inl o2
      · exact Or.inr ⟨t, t1, t2, t3, by rw [hq 31 t (by omega) (by omega) (by omega)]; exact t4⟩
  · intro j hj
    have hf := h.cnt.2.2.2.2.2.2.2.1
    have hj : j < gh.1 2 := hj
    rw [hC (500 + j) (by omega) (by omega), hC (400 + j) (by omega) (by omega), e 14 (by omega), e 35 (by omega), e 36 (by omega), e 37 (by omega), e 38 (by omega), e 39 (by omega), e 40 (by omega), e 3 (by omega), e 5 (by omega), e 6 (by omega)]
    exact h.fnd j hj
  · unfold rC_ok
    rw [List.all_eq_true]
    intro j hj
    have hj : j < gh.1 1 + 1 := by rw [g11] at hj; simpa using hj
    by_cases ej : j = gh.1 1
    · subst ej
      rw [nw]; exact hpk
    · rw [old j (by omega)]
      exact is8_up (by omega) (h.cmt j (by omega)).2.2.2.2.1
theorem Rn_fnd1 {n : Nat} {gh : rC_gh} {C C' R R' : rv_Mem} (h : Rn n gh C R) (hfd : gh.1 2 < 40) (hC : ∀ k, k ≠ 400 + gh.1 2 → k ≠ 500 + gh.1 2 → C' k = C k) (hR : ∀ k, k ≤ 33 ∨ (41 ≤ k ∧ k ≤ 52) → R' k = R k) (hq : ∀ k i, 35 ≤ k → k ≤ 40 → i ≠ gh.1 2 → R' k i = R k i) (h34 : R' 34 0 = nI (gh.1 2 + 1)) (h64 : rv_z (R' 64 0) = false)
    (new : ∃ q s f a k, q < gh.1 0 ∧ s < (R 14 q).toNatClampNeg ∧ f < 4 ∧ C' (500 + gh.1 2) 0 = nI q ∧ R' 35 (gh.1 2) = nI q ∧ C' (500 + gh.1 2) 1 = nI s ∧ R' 36 (gh.1 2) = nI s ∧ C' (500 + gh.1 2) 2 = nI f ∧ R' 37 (gh.1 2) = nI f ∧ C' (500 + gh.1 2) 3 = nI a ∧ R' 38 (gh.1 2) = nI a ∧ C' (500 + gh.1 2) 4 = nI k ∧ R' 39 (gh.1 2) = nI k ∧
      C' (400 + gh.1 2) 0 = mAt n (R 5) (R 6) (nI q) (nI s) ∧ a + k ≤ (R 3 (4 * (mAt n (R 5) (R 6) (nI q) (nI s)).toNatClampNeg + f)).toNatClampNeg ∧ C' (400 + gh.1 2) 1 = R' 40 (gh.1 2) ∧ (R' 40 (gh.1 2) = NO ∨ ∃ v, v < 400 ∧ R' 40 (gh.1 2) = nI v)) : Rn n (rC_gi gh 2 0) C' R' := by
  have hc20 := h.ch20
  have hcm := h.cnt.2.2.2.2.2.1
  have e := fun k (hk : k ≤ 33 ∨ (41 ≤ k ∧ k ≤ 52)) => hR k hk
  have g11 : (rC_gi gh 2 0).1 1 = gh.1 1 := rfl
  have g12 : (rC_gi gh 2 0).1 2 = gh.1 2 + 1 := rfl
  have g2 : ∀ k, (rC_gi gh 2 0).2 k = gh.2 k := fun k => by rw [rC_gi2, if_neg (by omega)]
  refine Rn_obj h rfl (fun k hk => hC k (by omega) (by omega)) (fun k hk => hR k (by omega)) h64 ⟨hcm, by rw [g11, e 24 (by omega)]; exact h.cnt.2.2.2.2.2.2.1, by rw [g12]; omega, by rw [g12]; exact h34⟩ ?_ ?_ ?_ ?_
  · intro q hq2 i hi
    rw [hC _ (by omega) (by omega), h.rev q hq2 i hi]
    unfold revB
    rw [g11, e 5 (by omega), e 12 (by omega), e 19 (by omega), e 22 (by omega), e 25 (by omega), e 26 (by omega), e 32 (by omega)]
  · intro j hj
    rw [g11] at hj
    obtain ⟨o1, o2, o3, o4, o5, o6⟩ := h.cmt j hj
    have hne : gh.2 (200 + j) ≠ 400 + gh.1 2 ∧ gh.2 (200 + j) ≠ 500 + gh.1 2 := by
      constructor
      · intro z
        rw [z] at o5
        unfold rC_is rC_kd at o5
        rw [if_neg (by omega), if_neg (by omega), if_neg (by omega), if_neg (by omega), if_neg (by omega), if_pos (by omega)] at o5
        simp at o5
      · intro z
        rw [z] at o5
        unfold rC_is rC_dm at o5
        rw [if_neg (by omega), if_neg (by omega), if_neg (by omega), if_neg (by omega), if_neg (by omega), if_neg (by omega), if_pos (by omega)] at o5
        simp at o5
    rw [g2, hC (200 + j) (by omega) (by omega), hC (gh.2 (200 + j)) hne.1 hne.2, e 14 (by omega), e 3 (by omega), e 5 (by omega), e 6 (by omega), e 25 (by omega), e 26 (by omega), e 27 (by omega), e 28 (by omega), e 29 (by omega), e 30 (by omega), e 31 (by omega), e 32 (by omega), e 33 (by omega)]
    exact ⟨o1, o2, o3, o4, is8_up (by omega) o5, o6⟩
  · intro j hj
    rw [g12] at hj
    rw [e 14 (by omega), e 3 (by omega), e 5 (by omega), e 6 (by omega)]
    by_cases ej : j = gh.1 2
    · subst ej; exact new
    · rw [hC (500 + j) (by omega) (by omega), hC (400 + j) (by omega) (by omega), hq 35 j (by omega) (by omega) ej, hq 36 j (by omega) (by omega) ej, hq 37 j (by omega) (by omega) ej, hq 38 j (by omega) (by omega) ej, hq 39 j (by omega) (by omega) ej, hq 40 j (by omega) (by omega) ej]
      exact h.fnd j (by omega)
  · unfold rC_ok
    rw [List.all_eq_true]
    intro j hj
    have hj : j < gh.1 1 := by rw [g11] at hj; simpa using hj
    rw [g2]
    exact is8_up (by omega) (h.cmt j hj).2.2.2.2.1

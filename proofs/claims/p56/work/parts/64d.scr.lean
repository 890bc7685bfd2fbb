set_option maxHeartbeats 1000000 in
theorem Rn_scr {n : Nat} {gh : rC_gh} {C R R' : rv_Mem} (hk : ∀ k, k ≤ 52 → R' k = R k) (h64 : rv_z (R' 64 0) = false) (h : Rn n gh C R) : Rn n gh C R' := by
  have e0 := hk 0 (by decide)
  have e1 := hk 1 (by decide)
  have e2 := hk 2 (by decide)
  have e3 := hk 3 (by decide)
  have e4 := hk 4 (by decide)
  have e5 := hk 5 (by decide)
  have e6 := hk 6 (by decide)
  have efl : ∀ c f, fl R' c f = fl R c f := fun c f => by unfold fl; rw [e3, e4]
  have eki : ∀ c, kindS n R' c = kindS n R c := fun c => by unfold kindS; simp only [e2, e5, e6, efl]
  have ecu : ∀ h, curS n R' h = curS n R h := fun h => by unfold curS; rw [e5, e6, hk 14 (by decide)]
  have epa : ∀ h, parS n R' h = parS n R h := fun h => by unfold parS; rw [ecu, e5, e2]
  obtain ⟨a1, a2, a3, a4, a5, a6, a7, a8, a9, a10, a11, a12, a13, a14, a15, a16, a17, a18⟩ := h
  refine ⟨?_, by rw [e3, e4]; exact a2, by rw [e1, e2, hk 8 (by decide)]; exact a3, by rw [e1, hk 9 (by decide), hk 10 (by decide)]; exact a4, by rw [e5, e6, hk 7 (by decide), hk 14 (by decide)]; exact a5, by rw [e5, e6, hk 14 (by decide)]; exact a6, ?_, ?_, ?_, ?_, ?_, by rw [hk 22 (by decide), hk 23 (by decide)]; exact a12, ?_, ?_, ?_, ?_, ?_, a18⟩
  · obtain ⟨b1, b2, b3, b4, b5, b6, b7, b8, b9, -⟩ := a1
    exact ⟨b1, b2, by rw [e0]; exact b3, b4, by rw [hk 11 (by decide)]; exact b5, b6, by rw [hk 24 (by decide)]; exact b7, b8, by rw [hk 34 (by decide)]; exact b9, h64⟩
  · unfold A_chg at a7 ⊢
    rw [e5, e1, hk 12 (by decide), hk 13 (by decide), hk 15 (by decide), hk 16 (by decide), hk 17 (by decide), hk 18 (by decide), hk 20 (by decide), hk 21 (by decide), hk 52 (by decide)]
    exact a7
  · unfold A_new at a8 ⊢
    rw [hk 15 (by decide), hk 16 (by decide), hk 19 (by decide), hk 20 (by decide)]
    exact a8
  · unfold A_par at a9 ⊢
    simp only [epa, e5, hk 9 (by decide), hk 13 (by decide)]
    exact a9
  · unfold A_kin at a10 ⊢
    simp only [eki, e5]
    exact a10
  · unfold A_rev at a11 ⊢
    rw [e5, hk 12 (by decide), hk 19 (by decide), hk 22 (by decide), hk 25 (by decide), hk 26 (by decide), hk 32 (by decide)]
    exact a11
  · unfold A_cmt at a13 ⊢
    rw [e5, e6, e3, hk 14 (by decide), hk 25 (by decide), hk 26 (by decide), hk 27 (by decide), hk 28 (by decide), hk 29 (by decide), hk 30 (by decide), hk 31 (by decide), hk 32 (by decide), hk 33 (by decide)]
    exact a13
  · unfold A_fnd at a14 ⊢
    rw [e5, e6, e3, hk 14 (by decide), hk 35 (by decide), hk 36 (by decide), hk 37 (by decide), hk 38 (by decide), hk 39 (by decide), hk 40 (by decide)]
    exact a14
  · unfold A_ols at a15 ⊢
    rw [hk 41 (by decide), hk 42 (by decide), hk 43 (by decide), hk 44 (by decide)]
    exact a15
  · unfold A_rul at a16 ⊢
    rw [hk 45 (by decide), hk 46 (by decide), hk 47 (by decide), hk 48 (by decide), hk 49 (by decide)]
    exact a16
  · unfold A_mis at a17 ⊢
    rw [hk 50 (by decide), hk 51 (by decide), hk 52 (by decide)]
    exact a17
theorem Rn_66 {n : Nat} {gh : rC_gh} {C R : rv_Mem} {v : Int32} (h : Rn n gh C R) : Rn n gh C (rv_u R 66 0 v) := by
  refine Rn_scr (fun k hk => mu_ne (by omega)) ?_ h
  rw [mu_ne (by omega)]
  exact h.1.2.2.2.2.2.2.2.2.2
theorem Rel_66 {gh : rC_gh} {C R : rv_Mem} {v : Int32} (h : Rel gh C R) : Rel gh C (rv_u R 66 0 v) := by
  obtain ⟨n, h⟩ := h
  exact ⟨n, Rn_66 h⟩

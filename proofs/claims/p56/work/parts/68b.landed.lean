/-! LANDING: the relation after it -/
theorem Rn_landed {n : Nat} {gh : rC_gh} {C C' R R' : rv_Mem} (h : Rn n gh C R) {g : Int32} {st : Nat → Nat} {K : Nat → Prop} (hC : ∀ q, q ≠ 6 → q ≠ 7 → q ≠ 8 → q ≠ 13 → q ≠ 18 → q ≠ 22 → ¬ (24 ≤ q ∧ q ≤ 40) → q ≠ 52 → (∀ i, i < gh.1 0 → q ≠ 100 + i) → C' q = C q)
    (hCi : ∀ i, i < gh.1 0 → (bt g i = true → C' (100 + i) 5 = nI 1 ∧ C' (100 + i) 10 = 0 ∧ C' (100 + i) 11 = C 0 11 ∧ C' (100 + i) 12 = nI (st i) ∧ ∀ j, j ≠ 5 → j ≠ 10 → j ≠ 11 → j ≠ 12 → C' (100 + i) j = C (100 + i) j) ∧ (bt g i = false → ∀ j, C' (100 + i) j = C (100 + i) j))
    (hR : ∀ q, q ≤ 52 → q ≠ 8 → q ≠ 9 → q ≠ 13 → q ≠ 18 → q ≠ 20 → q ≠ 21 → q ≠ 51 → R' q = R q) (h64 : rv_z (R' 64 0) = false) (hRi : ∀ i, (i < gh.1 0 → bt g i = false) → R' 13 i = R 13 i ∧ R' 20 i = R 20 i ∧ R' 21 i = R 21 i ∧ (R 13 i = nI 1 → R' 18 i = R 18 i)) (hRg : ∀ i, i < gh.1 0 → bt g i = true → R' 13 i = nI 1 ∧ R' 20 i = 0 ∧ R' 21 i = R 52 0 ∧ R' 18 i = nI (st i))
    (hst : ∀ i, i < gh.1 0 → bt g i = true → st i < n ∧ (R 5 (st i) = NO ∨ R 5 (st i) = nI i) ∧ R 1 (st i) = C (100 + i) 2) (h18 : ∀ c, c < n → C' 18 c = R' 8 c) (htip : ∀ r, r < 2 → ∃ t, t < n ∧ C' 22 r = nI t ∧ R' 9 r = nI t ∧ R 1 t = nI r ∧ ∀ p, p < gh.1 0 → R 5 t = nI p → K p) (hK : ∀ p, K p → p < gh.1 0 ∧ R' 13 p = nI 1 ∧ ∀ p', p' < gh.1 0 → parS n R p = nI p' → K p') (hm : ∀ p, p < 6 → C' 13 p = R' 51 p) : Rn n gh C' R' := by
  have hn := h.n80
  have hc20 := h.ch20
  have e := fun k (hk : k ≤ 52 ∧ k ≠ 8 ∧ k ≠ 9 ∧ k ≠ 13 ∧ k ≠ 18 ∧ k ≠ 20 ∧ k ≠ 21 ∧ k ≠ 51) => hR k (by omega) (by omega) (by omega) (by omega) (by omega) (by omega) (by omega) (by omega)
  have d := fun k (hk : k < 100 ∨ 120 ≤ k) (hk2 : k ≠ 6 ∧ k ≠ 7 ∧ k ≠ 8 ∧ k ≠ 13 ∧ k ≠ 18 ∧ k ≠ 22 ∧ ¬ (24 ≤ k ∧ k ≤ 40) ∧ k ≠ 52) => hC k (by omega) (by omega) (by omega) (by omega) (by omega) (by omega) (by omega) (by omega) (fun i hi => by omega)
  have ci : ∀ i, i < gh.1 0 → ∀ j, j ≠ 5 → j ≠ 10 → j ≠ 11 → j ≠ 12 → C' (100 + i) j = C (100 + i) j := fun i hi j a b c dd => by
    cases hb : bt g i with
    | true => exact ((hCi i hi).1 hb).2.2.2.2 j a b c dd
    | false => exact (hCi i hi).2 hb j
  have efl : ∀ c f, fl R' c f = fl R c f := fun c f => by unfold fl; rw [e 3 (by omega), e 4 (by omega)]
  have eki : ∀ c, kindS n R' c = kindS n R c := fun c => by unfold kindS; simp only [e 2 (by omega), e 5 (by omega), e 6 (by omega), efl]
  have epa : ∀ q, parS n R' q = parS n R q := fun q => by unfold parS curS; rw [e 2 (by omega), e 5 (by omega), e 6 (by omega), e 14 (by omega)]
  obtain ⟨dd, dd1, dd2, dd3⟩ := h.mis.2.2
  refine ⟨?_, by rw [d 14 (by omega) (by omega), d 15 (by omega) (by omega), e 3 (by omega), e 4 (by omega)]; exact h.fil, ?_, ?_, ?_, ?_, ?_, ?_, ?_, ?_, ?_, by rw [d 41 (by omega) (by omega), d 42 (by omega) (by omega), e 22 (by omega), e 23 (by omega)]; exact h.vot, ?_, ?_, ?_, ?_, ?_, h.ok⟩
  · obtain ⟨b1, b2, b3, b4, b5, b6, b7, b8, b9, -⟩ := h.cnt
    exact ⟨b1, by rw [d 1 (by omega) (by omega)]; exact b2, by rw [e 0 (by omega)]; exact b3, b4, by rw [e 11 (by omega)]; exact b5, b6, by rw [e 24 (by omega)]; exact b7, b8, by rw [e 34 (by omega)]; exact b9, h64⟩
  · rw [d 16 (by omega) (by omega), d 17 (by omega) (by omega), e 1 (by omega), e 2 (by omega)]
    exact ⟨fun c hc => ⟨(h.bas.1 c hc).1, h18 c hc⟩, h.bas.2⟩
  · intro r hr
    obtain ⟨t, t1, t2, t3, t4, -⟩ := htip r hr
    rw [d 51 (by omega) (by omega), e 1 (by omega), e 10 (by omega)]
    exact ⟨⟨t, t1, t2, t3, t4⟩, (h.tip r hr).2⟩
  · rw [d 19 (by omega) (by omega), d 20 (by omega) (by omega), e 5 (by omega), e 6 (by omega), e 7 (by omega), e 14 (by omega)]
    intro c hc
    rcases h.own c hc with a | ⟨q, s, p, a1, a2⟩
    · exact Or.inl a
    · exact Or.inr ⟨q, s, p, a1, by rw [d (120 + q) (by omega) (by omega)]; exact a2⟩
  · rw [e 5 (by omega), e 6 (by omega), e 14 (by omega)]
    obtain ⟨s1, s2⟩ := h.set
    refine ⟨fun q hq => ?_, fun q hq hq2 => by rw [d 23 (by omega) (by omega)]; exact s2 q hq hq2⟩
    rw [d (120 + q) (by omega) (by omega), ci q hq 4 (by omega) (by omega) (by omega) (by omega), d 23 (by omega) (by omega)]
    exact s1 q hq
  · intro q hq
    obtain ⟨a1, a2, ⟨r, r0, a3, a4, a5⟩, a6, a7, a8, a9, a10, a11⟩ := h.chg q hq
    rw [ci q hq 0 (by omega) (by omega) (by omega) (by omega), ci q hq 1 (by omega) (by omega) (by omega) (by omega), ci q hq 2 (by omega) (by omega) (by omega) (by omega), ci q hq 6 (by omega) (by omega) (by omega) (by omega), ci q hq 7 (by omega) (by omega) (by omega) (by omega), ci q hq 8 (by omega) (by omega) (by omega) (by omega), e 12 (by omega), e 5 (by omega), e 1 (by omega), e 15 (by omega), e 16 (by omega), e 17 (by omega), e 52 (by omega)]
    cases hb : bt g q with
    | true =>
      obtain ⟨b1, b2, b3, b4, -⟩ := (hCi q hq).1 hb
      obtain ⟨f1, f2, f3, f4⟩ := hRg q hq hb
      obtain ⟨s1, s2, s3⟩ := hst q hq hb
      rw [b1, b2, b3, b4, f1, f2, f3, f4]
      exact ⟨a1, a2, ⟨r, r0, a3, a4, fun _ => ⟨st q, s1, rfl, rfl, s2, by rw [s3]; exact a3⟩⟩, ⟨1, by omega, rfl, rfl⟩, a7, a8, a9, rfl, dd, by rw [dd3, q_nc (by omega)]; exact Nat.le_refl _, dd3, fun _ => dd2⟩
    | false =>
      obtain ⟨f1, f2, f3, f4⟩ := hRi q (fun _ => hb)
      have cq := (hCi q hq).2 hb
      rw [cq 5, cq 10, cq 11, cq 12, f1, f2, f3]
      refine ⟨a1, a2, ⟨r, r0, a3, a4, fun z => ?_⟩, a6, a7, a8, a9, a10, a11⟩
      rw [f4 z]; exact a5 z
  · intro q h1 h2
    rw [e 15 (by omega), e 16 (by omega), e 19 (by omega), (hRi q (fun z => by omega)).2.1]
    exact h.nw q h1 h2
  · refine ⟨?_, K, fun r p hr hp ht => ?_, fun p hp => ?_⟩
    · obtain ⟨ρ, p1⟩ := h.par.1
      exact ⟨ρ, fun x y hx hp => p1 x y hx (by rw [← epa x]; exact hp)⟩
    · obtain ⟨t, t1, t2, t3, t4, t5⟩ := htip r hr
      rw [t3, q_nc (by omega), e 5 (by omega)] at ht
      exact t5 p hp ht
    · obtain ⟨k1, k2, k3⟩ := hK p hp
      exact ⟨k2, fun p' hp' hh => k3 p' hp' (by rw [← epa p]; exact hh)⟩
  · intro c hc ho
    rw [d 21 (by omega) (by omega), eki]
    rw [e 5 (by omega)] at ho
    exact h.kin c hc ho
  · intro q hq i hi
    rw [ci q hq 9 (by omega) (by omega) (by omega) (by omega), h.rev q hq i hi, e 5 (by omega), e 12 (by omega), e 19 (by omega), e 22 (by omega), e 25 (by omega), e 26 (by omega), e 32 (by omega)]
  · have a13 := h.cmt
    have hcm := h.cnt.2.2.2.2.2.1
    intro j hj
    have a := a13 j hj
    have hpl := ok_pl2 a.2.2.2.2.1
    rw [d (200 + j) (by omega) (by omega), d (gh.2 (200 + j)) (by omega) (by omega), e 25 (by omega), e 26 (by omega), e 27 (by omega), e 28 (by omega), e 29 (by omega), e 30 (by omega), e 31 (by omega), e 32 (by omega), e 33 (by omega), e 14 (by omega), e 5 (by omega), e 6 (by omega), e 3 (by omega)]
    exact a
  · intro j hj
    have a := h.fnd j hj
    rw [d (400 + j) (by omega) (by omega), d (500 + j) (by omega) (by omega), e 35 (by omega), e 36 (by omega), e 37 (by omega), e 38 (by omega), e 39 (by omega), e 40 (by omega), e 14 (by omega), e 5 (by omega), e 6 (by omega), e 3 (by omega)]
    exact a
  · have := h.ols
    unfold A_ols at this ⊢
    rw [d 48 (by omega) (by omega), d 49 (by omega) (by omega), d 50 (by omega) (by omega), d 5 (by omega) (by omega), e 41 (by omega), e 42 (by omega), e 43 (by omega), e 44 (by omega)]; exact this
  · have := h.rul
    unfold A_rul at this ⊢
    rw [d 4 (by omega) (by omega), d 43 (by omega) (by omega), d 44 (by omega) (by omega), d 45 (by omega) (by omega), d 46 (by omega) (by omega), d 47 (by omega) (by omega), e 45 (by omega), e 46 (by omega), e 47 (by omega), e 48 (by omega), e 49 (by omega)]; exact this
  · obtain ⟨m1, m2, m3⟩ := h.mis
    refine ⟨?_, fun p hp => hm p hp, ?_⟩
    · rw [d 12 (by omega) (by omega), e 50 (by omega)]; exact m1
    · rw [d 0 (by omega) (by omega), e 52 (by omega)]; exact m3

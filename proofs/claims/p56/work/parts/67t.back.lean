/-! LANDING: back to the counts and tips of before -/
set_option maxHeartbeats 1000000 in
theorem Rn_back {n : Nat} {gh : rC_gh} {C C' R R' : rv_Mem} (h : Rn n gh C R) (hC : ∀ k, k ≠ 1 → k ≠ 6 → k ≠ 7 → k ≠ 8 → ¬ (14 ≤ k ∧ k ≤ 19) → ¬ (24 ≤ k ∧ k ≤ 40) → k ≠ 52 → C' k = C k) (h1 : C' 1 10 = nI n) (hF : ∀ c, c < n ∨ c = 80 → ∀ f, f < 4 → C' 15 (4 * c + f) = C 15 (4 * c + f) ∧ R' 3 (4 * c + f) = R 3 (4 * c + f) ∧ ∀ p, p < 10 → C' 14 (10 * (4 * c + f) + p) = C 14 (10 * (4 * c + f) + p) ∧ R' 4 (10 * (4 * c + f) + p) = R 4 (10 * (4 * c + f) + p)) (hCc : ∀ k c, 16 ≤ k → k ≤ 19 → c < n ∨ c = 80 → C' k c = C k c)
    (hR : ∀ k, k ≤ 52 → k ≠ 0 → k ≠ 1 → k ≠ 2 → k ≠ 3 → k ≠ 4 → k ≠ 5 → k ≠ 8 → k ≠ 18 → R' k = R k) (h0 : R' 0 0 = nI n) (hRc : ∀ k c, k = 1 ∨ k = 2 ∨ k = 5 ∨ k = 8 → c < n ∨ c = 80 → R' k c = R k c) (h18 : ∀ x, x < gh.1 0 → R 13 x = nI 1 → R' 18 x = R 18 x) (h64 : rv_z (R' 64 0) = false) : Rn n gh C' R' := by
  have hn := h.n80
  have hn2 := h.cnt.1.1
  have hc20 := h.ch20
  have e := fun k (hk : k ≤ 52 ∧ k ≠ 0 ∧ k ≠ 1 ∧ k ≠ 2 ∧ k ≠ 3 ∧ k ≠ 4 ∧ k ≠ 5 ∧ k ≠ 8 ∧ k ≠ 18) => hR k (by omega) (by omega) (by omega) (by omega) (by omega) (by omega) (by omega) (by omega) (by omega)
  have d := fun k (hk : k ≠ 1 ∧ k ≠ 6 ∧ k ≠ 7 ∧ k ≠ 8 ∧ ¬ (14 ≤ k ∧ k ≤ 19) ∧ ¬ (24 ≤ k ∧ k ≤ 40) ∧ k ≠ 52) => hC k (by omega) (by omega) (by omega) (by omega) (by omega) (by omega) (by omega)
  have r5 : ∀ c, c < n → R' 5 c = R 5 c := fun c hc => hRc 5 c (by omega) (Or.inl hc)
  have r2 : ∀ c, c < n → R' 2 c = R 2 c := fun c hc => hRc 2 c (by omega) (Or.inl hc)
  have r1 : ∀ c, c < n → R' 1 c = R 1 c := fun c hc => hRc 1 c (by omega) (Or.inl hc)
  have mA : ∀ x s, mAt n (R' 5) (R' 6) x s = mAt n (R 5) (R 6) x s := fun x s => by
    rw [e 6 (by omega)]
    exact mAt_cong r5 (fun _ _ => rfl)
  have efl : ∀ c f, c < n → f < 4 → fl R' c f = fl R c f := fun c f hc hf => by
    obtain ⟨z, z1, -, z3, -⟩ := h.fil c (Or.inl hc) f hf
    obtain ⟨-, y2, y3⟩ := hF c (Or.inl hc) f hf
    unfold fl
    rw [y2, z3, q_nc (by omega)]
    apply List.map_congr_left
    intro p hp
    have hp := List.mem_range.mp hp
    exact (y3 p (by omega)).2
  have epa : ∀ q, q < gh.1 0 → parS n R' q = parS n R q := fun q hq => by
    obtain ⟨k, c, k1, k2, k3, k4, c1, c2, c3, c4, c5, c6, c7, c8⟩ := h.cur hq
    obtain ⟨b, b1, b2, b3, -⟩ := h.base c1 c2
    have ec : curS n R' q = curS n R q := by unfold curS; rw [mA, e 14 (by omega)]
    unfold parS
    rw [ec, c7, q_nc (by omega), r2 c c2, b3, q_nc (by omega), r5 b (by omega)]
  have elt : ∀ x s, (mAt n (R 5) (R 6) x s).toNatClampNeg < n := fun x s => mAt_lt (by omega) (by omega)
  refine ⟨?_, ?_, ?_, ?_, ?_, ?_, ?_, ?_, ?_, ?_, ?_, by rw [d 41 (by omega), d 42 (by omega), e 22 (by omega), e 23 (by omega)]; exact h.vot, ?_, ?_, ?_, ?_, ?_, h.ok⟩
  · obtain ⟨b1, b2, b3, b4, b5, b6, b7, b8, b9, b10⟩ := h.cnt
    exact ⟨b1, h1, h0, b4, by rw [e 11 (by omega)]; exact b5, b6, by rw [e 24 (by omega)]; exact b7, b8, by rw [e 34 (by omega)]; exact b9, h64⟩
  · intro c hc f hf
    obtain ⟨z, z1, z2, z3, z4⟩ := h.fil c hc f hf
    obtain ⟨y1, y2, y3⟩ := hF c hc f hf
    refine ⟨z, z1, by rw [y1]; exact z2, by rw [y2]; exact z3, fun p hp => ?_⟩
    obtain ⟨v, v1, v2, v3⟩ := z4 p hp
    exact ⟨v, v1, by rw [(y3 p (by omega)).1]; exact v2, by rw [(y3 p (by omega)).2]; exact v3⟩
  · obtain ⟨b1, b2, b3, b, b4, b5, b6⟩ := h.bas
    refine ⟨fun c hc => ?_, fun c hc => ?_, fun c hc2 hc => ?_, b, b4, by rw [hCc 17 80 (by omega) (by omega) (Or.inr rfl)]; exact b5, by rw [hRc 2 80 (by omega) (Or.inr rfl)]; exact b6⟩
    · rw [hCc 16 c (by omega) (by omega) (Or.inl hc), hCc 18 c (by omega) (by omega) (Or.inl hc), r1 c hc, hRc 8 c (by omega) (Or.inl hc)]
      exact b1 c hc
    · rw [hCc 17 c (by omega) (by omega) (Or.inl (by omega)), r2 c (by omega)]
      exact b2 c hc
    · obtain ⟨y, d1, d2, d3, d4⟩ := b3 c hc2 hc
      exact ⟨y, d1, by rw [hCc 17 c (by omega) (by omega) (Or.inl hc)]; exact d2, by rw [r2 c hc]; exact d3, by rw [r1 c hc, r1 y (by omega)]; exact d4⟩
  · rw [d 22 (by omega), d 51 (by omega), e 9 (by omega), e 10 (by omega)]
    intro r hr
    obtain ⟨⟨t, t1, t2, t3, t4⟩, w⟩ := h.tip r hr
    exact ⟨⟨t, t1, t2, t3, by rw [r1 t t1]; exact t4⟩, w⟩
  · rw [d 20 (by omega), e 6 (by omega), e 7 (by omega), e 14 (by omega)]
    intro c hc
    rw [hCc 19 c (by omega) (by omega) (Or.inl hc), r5 c hc]
    rcases h.own c hc with a | ⟨q, s, p, a1, a2⟩
    · exact Or.inl a
    · exact Or.inr ⟨q, s, p, a1, by rw [d (120 + q) (by omega)]; exact a2⟩
  · rw [e 6 (by omega), e 14 (by omega)]
    obtain ⟨s1, s2⟩ := h.set
    refine ⟨fun q hq => ?_, fun q hq hq2 => by rw [d 23 (by omega)]; exact s2 q hq hq2⟩
    rw [d (120 + q) (by omega), d (100 + q) (by omega), d 23 (by omega)]
    obtain ⟨k, k1, k2, k3, k4, k5, k6⟩ := s1 q hq
    refine ⟨k, k1, k2, k3, k4, k5, fun j hj => ?_⟩
    obtain ⟨c, c1, c2, c3, c4, c5⟩ := k6 j hj
    exact ⟨c, c1, c2, c3, by rw [r5 c c2]; exact c4, c5⟩
  · intro q hq
    rw [d (100 + q) (by omega), e 12 (by omega), e 13 (by omega), e 15 (by omega), e 16 (by omega), e 17 (by omega), e 20 (by omega), e 21 (by omega), e 52 (by omega)]
    obtain ⟨a1, a2, ⟨r, r0, a3, a4, a5⟩, a6⟩ := h.chg q hq
    refine ⟨a1, a2, ⟨r, r0, a3, fun c hc hc5 => ?_, fun z => ?_⟩, a6⟩
    · rw [r5 c hc] at hc5
      rw [r1 c hc]; exact a4 c hc hc5
    · obtain ⟨c, c1, c2, c3, c4, c5⟩ := a5 z
      exact ⟨c, c1, c2, by rw [h18 q hq z]; exact c3, by rw [r5 c c1]; exact c4, by rw [r1 c c1]; exact c5⟩
  · intro q h1 h2
    rw [e 15 (by omega), e 16 (by omega), e 19 (by omega), e 20 (by omega)]
    exact h.nw q h1 h2
  · obtain ⟨⟨ρ, p1⟩, F, p2, p3⟩ := h.par
    refine ⟨⟨ρ, fun x g hx hp => p1 x g hx (by rw [← epa x hx]; exact hp)⟩, fun g => F g ∧ g < gh.1 0, fun r g hr hg ht => ⟨?_, hg⟩, fun g hg => ?_⟩
    · rw [e 9 (by omega)] at ht
      obtain ⟨⟨t, t1, t2, t3, t4⟩, -⟩ := h.tip r hr
      refine p2 r g hr hg ?_
      rw [t3, q_nc (by omega)] at ht ⊢
      rw [← r5 t t1]; exact ht
    · rw [e 13 (by omega)]
      obtain ⟨q1, q2⟩ := p3 g hg.1
      refine ⟨q1, fun g' hg' hp => ⟨q2 g' hg' ?_, hg'⟩⟩
      rw [← epa g hg.2]; exact hp
  · intro c hc ho
    rw [r5 c hc] at ho
    rw [d 21 (by omega), h.kin c hc ho]
    unfold kindS
    rw [r2 c hc, r5 c hc, mA, e 6 (by omega)]
    have hb := elt (R 5 c) (R 6 c - 1)
    generalize (mAt n (R 5) (R 6) (R 5 c) (R 6 c - 1)).toNatClampNeg = b at hb ⊢
    dsimp only
    rw [r2 b hb]
    have hb2 : (R 2 b).toNatClampNeg < n := h.baselt hb
    have hx2 : (R 2 c).toNatClampNeg < n := h.baselt hc
    have g1 : (List.range 4).all (fun f => decide (fl R' c f = fl R' b f)) = (List.range 4).all (fun f => decide (fl R c f = fl R b f)) := by
      rw [range4_all, range4_all]
      simp only [efl c _ hc (show 0 < 4 by omega), efl c _ hc (show 1 < 4 by omega), efl c _ hc (show 2 < 4 by omega), efl c _ hc (show 3 < 4 by omega), efl b _ hb (show 0 < 4 by omega), efl b _ hb (show 1 < 4 by omega), efl b _ hb (show 2 < 4 by omega), efl b _ hb (show 3 < 4 by omega)]
    have g2 : (List.range 4).all (fun f => allalk (fl R' (R 2 c).toNatClampNeg f) (fl R' c f) (fl R' (R 2 b).toNatClampNeg f) (fl R' b f)) = (List.range 4).all (fun f => allalk (fl R (R 2 c).toNatClampNeg f) (fl R c f) (fl R (R 2 b).toNatClampNeg f) (fl R b f)) := by
      rw [range4_all, range4_all]
      simp only [efl c _ hc (show 0 < 4 by omega), efl c _ hc (show 1 < 4 by omega), efl c _ hc (show 2 < 4 by omega), efl c _ hc (show 3 < 4 by omega), efl b _ hb (show 0 < 4 by omega), efl b _ hb (show 1 < 4 by omega), efl b _ hb (show 2 < 4 by omega), efl b _ hb (show 3 < 4 by omega), efl _ _ hx2 (show 0 < 4 by omega), efl _ _ hx2 (show 1 < 4 by omega), efl _ _ hx2 (show 2 < 4 by omega), efl _ _ hx2 (show 3 < 4 by omega), efl _ _ hb2 (show 0 < 4 by omega), efl _ _ hb2 (show 1 < 4 by omega), efl _ _ hb2 (show 2 < 4 by omega), efl _ _ hb2 (show 3 < 4 by omega)]
    rw [g1, g2]
  · intro q hq i hi
    rw [d (100 + q) (by omega), h.rev q hq i hi]
    unfold revB
    rw [e 12 (by omega), e 19 (by omega), e 22 (by omega), e 25 (by omega), e 26 (by omega), e 32 (by omega), any_congr (n := n) (fun k hk => by rw [← r5 k hk])]
  · intro j hj
    obtain ⟨b1, b2, b3, b4, b5, q, s, f, a, k, d1, d2, d3, d4, d5, d6, d7, d8, d9, d10, d11, d12, d13, d14, d15⟩ := h.cmt j hj
    rw [d (200 + j) (by omega), d (gh.2 (200 + j)) (by have := ok_pl b5; omega), e 25 (by omega), e 26 (by omega), e 27 (by omega), e 28 (by omega), e 29 (by omega), e 30 (by omega), e 31 (by omega), e 32 (by omega), e 33 (by omega), e 14 (by omega)]
    refine ⟨b1, b2, b3, b4, b5, q, s, f, a, k, d1, d2, d3, d4, d5, d6, d7, d8, d9, d10, d11, d12, d13, d14, ?_⟩
    rw [mA, (hF _ (Or.inl (elt _ _)) f d3).2.1]
    exact d15
  · intro j hj
    obtain ⟨q, s, f, a, k, d1, d2, d3, d4, d5, d6, d7, d8, d9, d10, d11, d12, d13, d14, d15⟩ := h.fnd j hj
    rw [d (400 + j) (by omega), d (500 + j) (by omega), e 35 (by omega), e 36 (by omega), e 37 (by omega), e 38 (by omega), e 39 (by omega), e 40 (by omega), e 14 (by omega)]
    refine ⟨q, s, f, a, k, d1, d2, d3, d4, d5, d6, d7, d8, d9, d10, d11, d12, d13, by rw [mA]; exact d14, ?_, d15.2⟩
    rw [mA, (hF _ (Or.inl (elt _ _)) f d3).2.1]
    exact d15.1
  · have := h.ols
    unfold A_ols at this ⊢
    rw [d 48 (by omega), d 49 (by omega), d 50 (by omega), d 5 (by omega), e 41 (by omega), e 42 (by omega), e 43 (by omega), e 44 (by omega)]; exact this
  · have := h.rul
    unfold A_rul at this ⊢
    rw [d 4 (by omega), d 43 (by omega), d 44 (by omega), d 45 (by omega), d 46 (by omega), d 47 (by omega), e 45 (by omega), e 46 (by omega), e 47 (by omega), e 48 (by omega), e 49 (by omega)]; exact this
  · have := h.mis
    unfold A_mis at this ⊢
    rw [d 12 (by omega), d 13 (by omega), d 0 (by omega), e 50 (by omega), e 51 (by omega), e 52 (by omega)]; exact this

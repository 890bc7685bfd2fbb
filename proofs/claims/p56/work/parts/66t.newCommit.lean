/-! A COMMIT MORE -/
theorem mAt_new {n : Nat} {r5 r6 r5' r6' : Nat → Int32} {s : Int32} {h : Nat} (hh : h < 2147483648) (e5 : ∀ c, c < n → r5' c = r5 c) (e6 : ∀ c, c < n → r6' c = r6 c) (h5 : r5' n = NO) : mAt (n + 1) r5' r6' (nI h) s = mAt n r5 r6 (nI h) s := by
  rw [← mAt_cong (s := s) (h := nI h) e5 e6]
  unfold mAt
  rw [up_snoc]
  unfold mFind
  rw [Nat.zero_add, if_neg (by rw [h5, q_no_eq' hh]; simp)]
theorem mAt_ge {n : Nat} {r5 r6 r5' r6' : Nat → Int32} {x s : Int32} (e5 : ∀ c, c < n → r5' c = r5 c) (e6 : ∀ c, c < n → r6' c = r6 c) (h5 : ¬ (r5' n = x ∧ r6' n = s)) : mAt (n + 1) r5' r6' x s = mAt n r5 r6 x s := by
  rw [← mAt_cong (s := s) (h := x) e5 e6]
  unfold mAt
  rw [up_snoc]
  unfold mFind
  rw [Nat.zero_add, if_neg h5]
theorem mAt_eq {n : Nat} {r5 r6 : Nat → Int32} {x s : Int32} (h5 : r5 n = x) (h6 : r6 n = s) : mAt (n + 1) r5 r6 x s = nI n := by
  unfold mAt
  rw [up_snoc]
  unfold mFind
  rw [Nat.zero_add, if_pos ⟨h5, h6⟩]
set_option maxHeartbeats 1000000 in
theorem Rn_commit {n : Nat} {gh : rC_gh} {C C' R R' : rv_Mem} (h : Rn n gh C R) (hn : n < 80) (hC : ∀ k, k ≠ 1 → ¬ (14 ≤ k ∧ k ≤ 19) → C' k = C k) (h1 : C' 1 10 = nI (n + 1)) (hCc : ∀ k, 16 ≤ k → k ≤ 19 → ∀ c, c ≠ n → C' k c = C k c)
    (hR : ∀ k, k = 6 ∨ k = 7 ∨ (9 ≤ k ∧ k ≤ 52) → R' k = R k) (h0 : R' 0 0 = nI (n + 1)) (h64 : rv_z (R' 64 0) = false) (hRc : ∀ k, k = 1 ∨ k = 2 ∨ k = 5 ∨ k = 8 → ∀ c, c ≠ n → R' k c = R k c)
    (fil : A_fil (n + 1) (C' 14) (C' 15) (R' 3) (R' 4)) (efl : ∀ c f, c < n → f < 4 → fl R' c f = fl R c f ∧ R' 3 (4 * c + f) = R 3 (4 * c + f))
    (new : ∃ r b, r < 2 ∧ b < n ∧ C' 16 n = nI r ∧ R' 1 n = nI r ∧ C' 17 n = nI b ∧ R' 2 n = nI b ∧ R 1 b = nI r) (h18 : C' 18 n = R' 8 n) (h19 : C' 19 n = NO) (h5 : R' 5 n = NO) : Rn (n + 1) gh C' R' ∧ (∀ x, x < gh.1 0 → parS (n + 1) R' x = parS n R x) := by
  have hc20 := h.ch20
  have n2 := h.cnt.1.1
  have e := fun k (hk : k = 6 ∨ k = 7 ∨ (9 ≤ k ∧ k ≤ 52)) => hR k hk
  have mA : ∀ x s, x < 2147483648 → mAt (n + 1) (R' 5) (R' 6) (nI x) s = mAt n (R 5) (R 6) (nI x) s := fun x s hx => by
    rw [e 6 (by omega)]
    exact mAt_new hx (fun c hc => hRc 5 (by omega) c (by omega)) (fun _ _ => rfl) h5
  have r5 : ∀ c, c < n → R' 5 c = R 5 c := fun c hc => hRc 5 (by omega) c (by omega)
  have r2 : ∀ c, c < n → R' 2 c = R 2 c := fun c hc => hRc 2 (by omega) c (by omega)
  have r1 : ∀ c, c < n → R' 1 c = R 1 c := fun c hc => hRc 1 (by omega) c (by omega)
  have n5 : ∀ x, x < 20 → ∀ c, c < n + 1 → R' 5 c = nI x → c < n ∧ R 5 c = nI x := fun x hx c hc hx5 => by
    by_cases e : c = n
    · subst e
      rw [h5, q_no_eq' (by omega)] at hx5; exact hx5.elim
    · exact ⟨by omega, by rw [← r5 c (by omega)]; exact hx5⟩
  have ecu : ∀ x, x < gh.1 0 → curS (n + 1) R' x = curS n R x := fun x hx => by unfold curS; rw [mA x _ (by omega), e 14 (by omega)]
  have epa : ∀ x, x < gh.1 0 → parS (n + 1) R' x = parS n R x := fun x hx => by
    obtain ⟨k, c, k1, k2, k3, k4, c1, c2, c3, c4, c5, c6, c7, c8⟩ := h.cur hx
    obtain ⟨b, b1, b2, b3, -⟩ := h.base c1 c2
    unfold parS
    rw [ecu x hx, c7, q_nc (by omega), r2 c c2, b3, q_nc (by omega), r5 b (by omega)]
  have elt : ∀ x s, x < gh.1 0 → s < (R 14 x).toNatClampNeg → (mAt n (R 5) (R 6) (nI x) (nI s)).toNatClampNeg < n := fun x s _ _ => mAt_lt (by omega) (by omega)
  refine ⟨⟨?_, fil, ?_, ?_, ?_, ?_, ?_, ?_, ?_, ?_, ?_, ?_, ?_, ?_, ?_, ?_, ?_, h.ok⟩, ?_⟩
  · obtain ⟨b1, b2, b3, b4, b5, b6, b7, b8, b9, -⟩ := h.cnt
    exact ⟨⟨by omega, by omega⟩, h1, h0, b4, by rw [e 11 (by omega)]; exact b5, b6, by rw [e 24 (by omega)]; exact b7, b8, by rw [e 34 (by omega)]; exact b9, h64⟩
  · obtain ⟨b1, b2, b3, b, b4, b5, b6⟩ := h.bas
    obtain ⟨r, b', r0, b0, n1, n2', n3, n4, n5'⟩ := new
    refine ⟨fun c hc => ?_, fun c hc => ?_, fun c hc2 hc => ?_, b, by omega, by rw [hCc 17 (by omega) (by omega) 80 (by omega)]; exact b5, by rw [hRc 2 (by omega) 80 (by omega)]; exact b6⟩
    · by_cases e : c = n
      · subst e; exact ⟨⟨r, r0, n1, n2'⟩, h18⟩
      · rw [hCc 16 (by omega) (by omega) c e, hCc 18 (by omega) (by omega) c e, r1 c (by omega), hRc 8 (by omega) c e]
        exact b1 c (by omega)
    · rw [hCc 17 (by omega) (by omega) c (by omega), r2 c (by omega)]
      exact b2 c hc
    · by_cases e : c = n
      · subst e; exact ⟨b', b0, n3, n4, by rw [r1 b' b0, n5', n2']⟩
      · obtain ⟨d, d1, d2, d3, d4⟩ := b3 c hc2 (by omega)
        exact ⟨d, d1, by rw [hCc 17 (by omega) (by omega) c e]; exact d2, by rw [r2 c (by omega)]; exact d3, by rw [r1 c (by omega), r1 d (by omega)]; exact d4⟩
  · rw [hC 22 (by omega) (by omega), hC 51 (by omega) (by omega), e 9 (by omega), e 10 (by omega)]
    intro r hr
    obtain ⟨⟨t, t1, t2, t3, t4⟩, w⟩ := h.tip r hr
    exact ⟨⟨t, by omega, t2, t3, by rw [r1 t t1]; exact t4⟩, w⟩
  · rw [hC 20 (by omega) (by omega), e 6 (by omega), e 7 (by omega), e 14 (by omega)]
    intro c hc
    by_cases ec : c = n
    · subst ec; exact Or.inl ⟨h19, h5⟩
    · rw [hCc 19 (by omega) (by omega) c ec, r5 c (by omega)]
      rcases h.own c (by omega) with a | ⟨q, s, p, a1, a2⟩
      · exact Or.inl a
      · exact Or.inr ⟨q, s, p, a1, by rw [hC (120 + q) (by omega) (by omega)]; exact a2⟩
  · rw [e 6 (by omega), e 14 (by omega)]
    obtain ⟨s1, s2⟩ := h.set
    refine ⟨fun q hq => ?_, fun q hq hq2 => by rw [hC 23 (by omega) (by omega)]; exact s2 q hq hq2⟩
    rw [hC (120 + q) (by omega) (by omega), hC (100 + q) (by omega) (by omega), hC 23 (by omega) (by omega)]
    obtain ⟨k, k1, k2, k3, k4, k5, k6⟩ := s1 q hq
    refine ⟨k, k1, k2, k3, k4, k5, fun j hj => ?_⟩
    obtain ⟨c, c1, c2, c3, c4, c5⟩ := k6 j hj
    exact ⟨c, c1, by omega, c3, by rw [r5 c c2]; exact c4, c5⟩
  · intro q hq
    rw [hC (100 + q) (by omega) (by omega), e 12 (by omega), e 13 (by omega), e 15 (by omega), e 16 (by omega), e 17 (by omega), e 18 (by omega), e 20 (by omega), e 21 (by omega), e 52 (by omega)]
    obtain ⟨a1, a2, ⟨r, r0, a3, a4, a5⟩, a6⟩ := h.chg q hq
    refine ⟨a1, a2, ⟨r, r0, a3, fun c hc hc5 => ?_, fun z => ?_⟩, a6⟩
    · obtain ⟨y1, y2⟩ := n5 q (by omega) c hc hc5
      rw [r1 c y1]; exact a4 c y1 y2
    · obtain ⟨c, c1, c2, c3, c4, c5⟩ := a5 z
      exact ⟨c, by omega, c2, c3, by rw [r5 c c1]; exact c4, by rw [r1 c c1]; exact c5⟩
  · intro q h1 h2
    rw [e 15 (by omega), e 16 (by omega), e 19 (by omega), e 20 (by omega)]
    exact h.nw q h1 h2
  · obtain ⟨⟨ρ, p1⟩, F, p2, p3⟩ := h.par
    refine ⟨⟨ρ, fun x g hx hp => p1 x g hx (by rw [← epa x hx]; exact hp)⟩, fun g => F g ∧ g < gh.1 0, fun r g hr hg ht => ⟨?_, hg⟩, fun g hg => ?_⟩
    · rw [e 9 (by omega)] at ht
      obtain ⟨⟨t, t1, t2, t3, t4⟩, -⟩ := h.tip r hr
      refine p2 r g hr hg ?_
      rw [t3, q_nc (by omega)] at ht ⊢
      rw [← r5 t t1]; exact ht
    · rw [e 13 (by omega)]
      obtain ⟨q1, q2⟩ := p3 g hg.1
      refine ⟨q1, fun g' hg' hp => ⟨q2 g' hg' ?_, hg'⟩⟩
      rw [← epa g hg.2]; exact hp
  · intro c hc ho
    by_cases ec : c = n
    · subst ec; exact absurd h5 ho
    · have hc' : c < n := by omega
      rw [r5 c hc'] at ho
      rw [hC 21 (by omega) (by omega), h.kin c hc' ho]
      obtain ⟨q, s, a1, a2, a3, a4, a5, a6⟩ := h.prev hc' ho
      unfold kindS
      rw [e 6 (by omega), r5 c hc', r2 c hc', a3, ← e 6 (by omega), mA q _ (by omega), e 6 (by omega)]
      have hb : (mAt n (R 5) (R 6) (nI q) (R 6 c - 1)).toNatClampNeg < n := mAt_lt (by omega) (by omega)
      generalize (mAt n (R 5) (R 6) (nI q) (R 6 c - 1)).toNatClampNeg = b at hb ⊢
      obtain ⟨x, x1, -, x3, -⟩ := h.base a2 hc'
      dsimp only
      rw [r2 b hb]
      have hb2 : (R 2 b).toNatClampNeg < n := h.baselt hb
      have hx2 : (R 2 c).toNatClampNeg < n := h.baselt hc'
      have l1 : ∀ y, y < n → ∀ f, f ∈ List.range 4 → fl R' y f = fl R y f := fun y hy f hf => (efl y f hy (List.mem_range.mp hf)).1
      have g1 : (List.range 4).all (fun f => decide (fl R' c f = fl R' b f)) = (List.range 4).all (fun f => decide (fl R c f = fl R b f)) := by
        rw [range4_all, range4_all]
        simp only [(efl c _ hc' (show 0 < 4 by omega)).1, (efl c _ hc' (show 1 < 4 by omega)).1, (efl c _ hc' (show 2 < 4 by omega)).1, (efl c _ hc' (show 3 < 4 by omega)).1, (efl b _ hb (show 0 < 4 by omega)).1, (efl b _ hb (show 1 < 4 by omega)).1, (efl b _ hb (show 2 < 4 by omega)).1, (efl b _ hb (show 3 < 4 by omega)).1]
      have g2 : (List.range 4).all (fun f => allalk (fl R' (R 2 c).toNatClampNeg f) (fl R' c f) (fl R' (R 2 b).toNatClampNeg f) (fl R' b f)) = (List.range 4).all (fun f => allalk (fl R (R 2 c).toNatClampNeg f) (fl R c f) (fl R (R 2 b).toNatClampNeg f) (fl R b f)) := by
        rw [range4_all, range4_all]
        simp only [(efl c _ hc' (show 0 < 4 by omega)).1, (efl c _ hc' (show 1 < 4 by omega)).1, (efl c _ hc' (show 2 < 4 by omega)).1, (efl c _ hc' (show 3 < 4 by omega)).1, (efl b _ hb (show 0 < 4 by omega)).1, (efl b _ hb (show 1 < 4 by omega)).1, (efl b _ hb (show 2 < 4 by omega)).1, (efl b _ hb (show 3 < 4 by omega)).1, (efl _ _ hx2 (show 0 < 4 by omega)).1, (efl _ _ hx2 (show 1 < 4 by omega)).1, (efl _ _ hx2 (show 2 < 4 by omega)).1, (efl _ _ hx2 (show 3 < 4 by omega)).1, (efl _ _ hb2 (show 0 < 4 by omega)).1, (efl _ _ hb2 (show 1 < 4 by omega)).1, (efl _ _ hb2 (show 2 < 4 by omega)).1, (efl _ _ hb2 (show 3 < 4 by omega)).1]
      rw [g1, g2]
  · intro q hq i hi
    rw [hC (100 + q) (by omega) (by omega), h.rev q hq i hi]
    unfold revB
    rw [any_succ, e 12 (by omega), e 19 (by omega), e 22 (by omega), e 25 (by omega), e 26 (by omega), e 32 (by omega), h5]
    have : decide (NO = nI q) = false := decide_eq_false (by rw [q_no_eq' (by omega)]; simp)
    rw [this, Bool.false_and, Bool.false_and, Bool.or_false, any_congr (n := n) (fun k hk => by rw [← r5 k hk])]
  · rw [hC 41 (by omega) (by omega), hC 42 (by omega) (by omega), e 22 (by omega), e 23 (by omega)]
    obtain ⟨v1, v2⟩ := h.vot
    refine ⟨fun c l p hc hl hp => ?_, v2⟩
    rcases v1 c l p hc hl hp with a | ⟨a, b⟩
    · exact Or.inl a
    · exact Or.inr ⟨by omega, b⟩
  · intro j hj
    obtain ⟨b1, b2, b3, b4, b5, q, s, f, a, k, d1, d2, d3, d4, d5, d6, d7, d8, d9, d10, d11, d12, d13, d14, d15⟩ := h.cmt j hj
    rw [hC (200 + j) (by omega) (by omega), hC (gh.2 (200 + j)) (by have := ok_pl b5; omega) (by have := ok_pl b5; omega), e 25 (by omega), e 26 (by omega), e 27 (by omega), e 28 (by omega), e 29 (by omega), e 30 (by omega), e 31 (by omega), e 32 (by omega), e 33 (by omega), e 14 (by omega)]
    refine ⟨b1, b2, b3, b4, b5, q, s, f, a, k, d1, d2, d3, d4, d5, d6, d7, d8, d9, d10, d11, d12, d13, d14, ?_⟩
    rw [mA q _ (by omega), (efl _ f (elt q s d1 d2) d3).2]
    exact d15
  · intro j hj
    obtain ⟨q, s, f, a, k, d1, d2, d3, d4, d5, d6, d7, d8, d9, d10, d11, d12, d13, d14, d15⟩ := h.fnd j hj
    rw [hC (400 + j) (by omega) (by omega), hC (500 + j) (by omega) (by omega), e 35 (by omega), e 36 (by omega), e 37 (by omega), e 38 (by omega), e 39 (by omega), e 40 (by omega), e 14 (by omega)]
    refine ⟨q, s, f, a, k, d1, d2, d3, d4, d5, d6, d7, d8, d9, d10, d11, d12, d13, ?_, ?_, d15.2⟩
    · rw [mA q _ (by omega)]; exact d14
    · rw [mA q _ (by omega), (efl _ f (elt q s d1 d2) d3).2]
      exact d15.1
  · have := h.ols
    unfold A_ols at this ⊢
    rw [hC 48 (by omega) (by omega), hC 49 (by omega) (by omega), hC 50 (by omega) (by omega), hC 5 (by omega) (by omega), e 41 (by omega), e 42 (by omega), e 43 (by omega), e 44 (by omega)]; exact this
  · have := h.rul
    unfold A_rul at this ⊢
    rw [hC 4 (by omega) (by omega), hC 43 (by omega) (by omega), hC 44 (by omega) (by omega), hC 45 (by omega) (by omega), hC 46 (by omega) (by omega), hC 47 (by omega) (by omega), e 45 (by omega), e 46 (by omega), e 47 (by omega), e 48 (by omega), e 49 (by omega)]; exact this
  · have := h.mis
    unfold A_mis at this ⊢
    rw [hC 12 (by omega) (by omega), hC 13 (by omega) (by omega), hC 0 (by omega) (by omega), e 50 (by omega), e 51 (by omega), e 52 (by omega)]; exact this
  · exact epa

/-! LANDING: the invariant at the start, and when the landing fails -/
theorem lnd_init {n : Nat} {gh : rC_gh} {C R M : rv_Mem} (hR : Rn n gh C R) {wy : Nat → Nat} {F : Nat → Prop} {g sq : Int32} (hF : ∀ r p, r < 2 → p < gh.1 0 → R 5 (R 9 r).toNatClampNeg = nI p → F p) (hM : ∀ q, q ≠ 6 → q ≠ 52 → M q = C q) (h65 : M 6 5 = sq) (h52 : ∀ i, i < 20 → M 52 i = NO) : lnd n gh C R (parS n R) wy F g sq n M R g := by
  have hc := hR.ch20
  have hn := hR.n80
  have eC : vC C M = C := by
    funext q
    unfold vC
    by_cases c : q = 6 ∨ q = 22 ∨ q = 52
    · rw [if_pos c]
    · rw [if_neg c, hM q (by omega) (by omega)]
  have eR : vR R R = R := by
    funext q
    unfold vR
    by_cases c : q = 9 ∨ q = 18
    · rw [if_pos c]
    · rw [if_neg c]
  have no : ∀ i, ¬ prc g g i := fun i z => by have := z.1; rw [z.2] at this; cases this
  refine ⟨Nat.le_refl _, ⟨fun q a b c d e f h i => hM q b i, fun _ _ => rfl, fun k c h1 h2 _ => by rw [hM k (by omega) (by omega)], fun _ _ _ _ => rfl, fun c _ f _ => ⟨by rw [hM 15 (by omega) (by omega)], rfl, fun p _ => ⟨by rw [hM 14 (by omega) (by omega)], rfl⟩⟩⟩, by rw [eC, eR]; exact hR, fun i hi => by rw [eR], h65, fun i _ h => h, fun i p _ _ h => absurd h (no i), fun r hr => ?_, fun i p _ _ h => absurd h (no i), fun i hi _ _ => h52 i (by omega), fun i _ h => absurd h (no i), fun i p _ _ h => absurd h (no i)⟩
  obtain ⟨⟨t, t1, t2, t3, t4⟩, -⟩ := hR.tip r hr
  refine ⟨t, t1, by rw [hM 22 (by omega) (by omega)]; exact t2, t3, t4, fun p hp h5 => Or.inl (hF r p hr hp ?_)⟩
  rw [t3, q_nc (by omega)]; exact h5
/-- a failed landing -/
theorem lfr_back {n : Nat} {gh : rC_gh} {C R M S : rv_Mem} (hR : Rn n gh C R) (hop : ∀ x, x < gh.1 0 → R 13 x = nI 1 → S 18 x = R 18 x) (h : lfr n C R M S) {t0 t1 : Int32} (h0 : t0 = C 22 0) (h1 : t1 = C 22 1) (h22 : ∀ r, 2 ≤ r → M 22 r = C 22 r) (h9 : ∀ r, 2 ≤ r → S 9 r = R 9 r) : Rn n gh (rv_u (rv_u (rv_u M 1 10 (nI n)) 22 0 t0) 22 1 t1) (rv_u (rv_u (rv_u S 0 0 (nI n)) 9 0 (R 9 0)) 9 1 (R 9 1)) := by
  obtain ⟨f1, f2, f3, f4, f5⟩ := h
  have e22 : rv_u (rv_u (rv_u M 1 10 (nI n)) 22 0 t0) 22 1 t1 22 = C 22 := by
    funext r
    by_cases c1 : r = 1
    · subst c1; rw [mu_same, h1]
    · rw [mu_ne2 c1]
      by_cases c0 : r = 0
      · subst c0; rw [mu_same, h0]
      · rw [mu_ne2 c0, mu_ne (by omega)]; exact h22 r (by omega)
  have e9 : rv_u (rv_u (rv_u S 0 0 (nI n)) 9 0 (R 9 0)) 9 1 (R 9 1) 9 = R 9 := by
    funext r
    by_cases c1 : r = 1
    · subst c1; rw [mu_same]
    · rw [mu_ne2 c1]
      by_cases c0 : r = 0
      · subst c0; rw [mu_same]
      · rw [mu_ne2 c0, mu_ne (by omega)]; exact h9 r (by omega)
  refine Rn_back hR (fun k a b c d e f i => ?_) (by rw [mu_ne (by omega), mu_ne (by omega), mu_same]) (fun c hc f hf => ?_) (fun k c a b hc => by rw [mu_ne (by omega), mu_ne (by omega), mu_ne (by omega)]; exact f3 k c a b hc) (fun k a b c d e f i j l => ?_) (by rw [mu_ne (by omega), mu_ne (by omega), mu_same]) (fun k c hk hc => by rw [mu_ne (by omega), mu_ne (by omega), mu_ne (by omega)]; exact f4 k c hk hc) (fun x hx z => by rw [mu_ne (by omega), mu_ne (by omega), mu_ne (by omega)]; exact hop x hx z) (by rw [mu_ne (by omega), mu_ne (by omega), mu_ne (by omega), f2 64 (by omega)]; exact hR.h64)
  · by_cases z : k = 22
    · subst z; exact e22
    · rw [mu_ne z, mu_ne z, mu_ne a]; exact f1 k a b c d e z f i
  · rw [mu_ne (by omega), mu_ne (by omega), mu_ne (by omega), mu_ne (by omega), mu_ne (by omega), mu_ne (by omega)]
    obtain ⟨y1, y2, y3⟩ := f5 c hc f hf
    refine ⟨y1, y2, fun p hp => ?_⟩
    rw [mu_ne (by omega), mu_ne (by omega), mu_ne (by omega), mu_ne (by omega), mu_ne (by omega), mu_ne (by omega)]
    exact y3 p hp
  · by_cases z : k = 9
    · subst z; exact e9
    · rw [mu_ne z, mu_ne z, mu_ne b]; exact f2 k (by omega)

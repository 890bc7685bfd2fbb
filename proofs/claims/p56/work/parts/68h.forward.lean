/-! LANDING: fast forward -/
theorem lnd_0 {n0 n : Nat} {gh : rC_gh} {C R M S : rv_Mem} {P : Nat → Int32} {wy : Nat → Nat} {F : Nat → Prop} {g sq left : Int32} (hc : gh.1 0 ≤ 20) (h : lnd n0 gh C R P wy F g sq n M S left) {i r c t : Nat} (hi : i < gh.1 0) (hr : r < 2) (hfr : free P left i) (hw : wy i = 0) (hns : ∀ p, p < gh.1 0 → P i = nI p → bt sq p = false) (hcn : c < n) (h5 : S 5 c = nI i) (h1 : S 1 c = nI r) (h2 : C (100 + i) 2 = nI r) (ht : S 9 r = nI t) (htn : t < 82) (hP : P i = S 5 t) : lnd n0 gh C R P wy F g sq n (rv_u (rv_u M 52 i (nI c)) 22 r (nI c)) (rv_u (rv_u S 9 r (nI c)) 18 i (nI c)) (lft left i) := by
  obtain ⟨a1, ⟨b1, b2, b3, b4, b5⟩, a3, a4, a5, a6, a7, a8, a9, a10, a11, a12⟩ := h
  have hn80 := a3.n80
  have eV : vR R (rv_u (rv_u S 9 r (nI c)) 18 i (nI c)) = vR R S := by
    funext q
    unfold vR
    by_cases c : q = 9 ∨ q = 18
    · rw [if_pos c, if_pos c]
    · rw [if_neg c, if_neg c, mu_ne (by omega), mu_ne (by omega)]
  have eC : vC C (rv_u (rv_u M 52 i (nI c)) 22 r (nI c)) = vC C M := by
    funext q
    unfold vC
    by_cases c : q = 6 ∨ q = 22 ∨ q = 52
    · rw [if_pos c, if_pos c]
    · rw [if_neg c, if_neg c, mu_ne (by omega), mu_ne (by omega)]
  have mM : ∀ q, q ≠ 22 → q ≠ 52 → rv_u (rv_u M 52 i (nI c)) 22 r (nI c) q = M q := fun q x y => by rw [mu_ne x, mu_ne y]
  have mS : ∀ q, q ≠ 9 → q ≠ 18 → rv_u (rv_u S 9 r (nI c)) 18 i (nI c) q = S q := fun q x y => by rw [mu_ne y, mu_ne x]
  have m52 : rv_u (rv_u M 52 i (nI c)) 22 r (nI c) 52 = rv_u M 52 i (nI c) 52 := mu_ne (by omega)
  have cN : nI c ≠ NO := by rw [Ne, q_no_eq (by omega)]; simp
  have hg := a6 i (by omega) hfr.1
  have hp : ∀ j, j < gh.1 0 → (prc g (lft left i) j ↔ prc g left j ∨ j = i) := fun j hj => prc_lft (by omega) (by omega) hg
  have up : ∀ p, p < gh.1 0 → tow F wy g left p → tow F wy g (lft left i) p := fun p hpp z => z.elim Or.inl (fun y => Or.inr ⟨(hp p hpp).mpr (Or.inl y.1), y.2⟩)
  have lo : ∀ j, j < 32 → bt (lft left i) j = true → bt left j = true ∧ j ≠ i := fun j hj z => by
    rw [lft_b (by omega) hj, Bool.and_eq_true] at z
    exact ⟨z.1, by have := z.2; simp at this; exact this⟩
  refine ⟨a1, ⟨fun q x1 x2 x3 x4 x5 x6 x7 x8 => by rw [mM q x6 x8]; exact b1 q x1 x2 x3 x4 x5 x6 x7 x8, fun q hq => ?_, fun k c' x y hcc => by rw [mM k (by omega) (by omega)]; exact b3 k c' x y hcc, fun q c' hq hcc => by rw [mS q (by omega) (by omega)]; exact b4 q c' hq hcc, fun c' hcc f hf => by rw [mM 15 (by omega) (by omega), mM 14 (by omega) (by omega), mS 3 (by omega) (by omega), mS 4 (by omega) (by omega)]; exact b5 c' hcc f hf⟩, by rw [eV, eC]; exact a3, by rw [eV]; exact a4, by rw [mM 6 (by omega) (by omega)]; exact a5, fun j hj z => a6 j hj (lo j hj z).1, fun j p hj hpp z hPj hgp => ?_, fun r' hr' => ?_, fun j p hj hpp z hw0 hPj => ?_, fun j hj hgj z => ?_, fun j hj z => ?_, fun j p hj hpp z hPj hsp hne => ?_⟩
  · rw [mS q (by omega) (by omega)]; exact b2 q hq
  · have old : bt left p = false := by
      rcases (hp j hj).mp z with y | y
      · exact a7 j p hj hpp y hPj hgp
      · subst y; exact hfr.2 p (by omega) hPj
    rw [lft_b (by omega) (by omega), old]; rfl
  · by_cases e : r' = r
    · subst e
      refine ⟨c, hcn, mu_same _ _ _ _, by rw [mu_ne (by omega), mu_same], by rw [mS 1 (by omega) (by omega)]; exact h1, fun p hpp z => ?_⟩
      rw [mS 5 (by omega) (by omega), h5, q_eq (by omega) (by omega)] at z
      subst z
      exact Or.inr ⟨(hp i hi).mpr (Or.inr rfl), hw⟩
    · obtain ⟨t', t1, t2, t3, t4, t5⟩ := a8 r' hr'
      exact ⟨t', t1, by rw [mu_ne2 e, mu_ne (by omega)]; exact t2, by rw [mu_ne (by omega), mu_ne2 e]; exact t3, by rw [mS 1 (by omega) (by omega)]; exact t4, fun p hpp z => up p hpp (t5 p hpp (by rw [mS 5 (by omega) (by omega)] at z; exact z))⟩
  · rcases (hp j hj).mp z with y | y
    · exact up p hpp (a9 j p hj hpp y hw0 hPj)
    · subst y
      obtain ⟨t', t1, t2, t3, t4, t5⟩ := a8 r hr
      rw [ht, q_eq (by omega) (by omega)] at t3
      subst t3
      exact up p hpp (t5 p hpp (by rw [← hP]; exact hPj))
  · obtain ⟨y1, y2⟩ := lo j (by omega) z
    rw [m52, mu_ne2 y2]; exact a10 j hj hgj y1
  · rw [m52, mS 5 (by omega) (by omega), mS 1 (by omega) (by omega)]
    by_cases e : j = i
    · subst e
      rw [mu_same, mu_same]
      exact ⟨rfl, Or.inr ⟨c, hcn, rfl, Or.inr h5, by rw [h1, h2]⟩⟩
    · rcases (hp j hj).mp z with y | y
      · rw [mu_ne2 e, mu_ne2 e, mu_ne (by omega)]; exact a11 j hj y
      · exact absurd y e
  · rw [m52] at hne ⊢
    by_cases e : p = i
    · subst e; rw [mu_same]; exact cN
    · rw [mu_ne2 e]
      rcases (hp j hj).mp z with y | y
      · by_cases e2 : j = i
        · subst e2; rw [hns p hpp hPj] at hsp; cases hsp
        · rw [mu_ne2 e2] at hne
          exact a12 j p hj hpp y hPj hsp hne
      · subst y; rw [hns p hpp hPj] at hsp; cases hsp

/-! LANDING: a squashed change is passed over -/
def lft (left : Int32) (i : Nat) : Int32 := left &&& (((1 : Int32) <<< (nI i &&& 31)) ^^^ (-1))
theorem lft_b {left : Int32} {i j : Nat} (hi : i < 32) (hj : j < 32) : bt (lft left i) j = (bt left j && !decide (j = i)) := by
  unfold lft
  rw [b_and, b_not _ hj, b_shl1 i hi j hj]
theorem prc_lft {g left : Int32} {i j : Nat} (hi : i < 32) (hj : j < 32) (hg : bt g i = true) : prc g (lft left i) j ↔ prc g left j ∨ j = i := by
  unfold prc
  rw [lft_b hi hj]
  by_cases e : j = i
  · subst e; simp [hg]
  · simp [e]
theorem lnd_sq {n0 n : Nat} {gh : rC_gh} {C R M S : rv_Mem} {P : Nat → Int32} {wy : Nat → Nat} {F : Nat → Prop} {g sq left : Int32} (hc : gh.1 0 ≤ 20) (h : lnd n0 gh C R P wy F g sq n M S left) {i : Nat} (hi : i < gh.1 0) (hfr : free P left i) (hw : wy i ≠ 0) (hs : bt sq i = true) : lnd n0 gh C R P wy F g sq n M (rv_u S 18 i NO) (lft left i) := by
  obtain ⟨a1, ⟨b1, b2, b3, b4, b5⟩, a3, a4, a5, a6, a7, a8, a9, a10, a11, a12⟩ := h
  have eV : vR R (rv_u S 18 i NO) = vR R S := by
    funext q
    unfold vR
    by_cases c : q = 9 ∨ q = 18
    · rw [if_pos c, if_pos c]
    · rw [if_neg c, if_neg c, mu_ne (by omega)]
  have hg := a6 i (by omega) hfr.1
  have hp : ∀ j, j < gh.1 0 → (prc g (lft left i) j ↔ prc g left j ∨ j = i) := fun j hj => prc_lft (by omega) (by omega) hg
  have up : ∀ p, p < gh.1 0 → tow F wy g left p → tow F wy g (lft left i) p := fun p hpp z => z.elim Or.inl (fun y => Or.inr ⟨(hp p hpp).mpr (Or.inl y.1), y.2⟩)
  have lo : ∀ j, j < 32 → bt (lft left i) j = true → bt left j = true := fun j hj z => by
    rw [lft_b (by omega) hj, Bool.and_eq_true] at z; exact z.1
  refine ⟨a1, ⟨b1, fun q hq => by rw [mu_ne (by omega)]; exact b2 q hq, b3, fun q c hq hcc => by rw [mu_ne (by omega)]; exact b4 q c hq hcc, fun c hcc f hf => by rw [mu_ne (by omega), mu_ne (by omega)]; exact b5 c hcc f hf⟩, by rw [eV]; exact a3, by rw [eV]; exact a4, a5, fun j hj z => a6 j hj (lo j hj z), fun j p hj hpp z hP hgp => ?_, fun r hr => ?_, fun j p hj hpp z hw0 hP => ?_, fun j hj hgj z => a10 j hj hgj (lo j (by omega) z), fun j hj z => ?_, fun j p hj hpp z hP hsp hne => ?_⟩
  · have old : bt left p = false := by
      rcases (hp j hj).mp z with y | y
      · exact a7 j p hj hpp y hP hgp
      · subst y; exact hfr.2 p (by omega) hP
    rw [lft_b (by omega) (by omega), old]; rfl
  · obtain ⟨t, t1, t2, t3, t4, t5⟩ := a8 r hr
    exact ⟨t, t1, t2, by rw [mu_ne (by omega)]; exact t3, by rw [mu_ne (by omega)]; exact t4, fun p hpp h5 => up p hpp (t5 p hpp (by rw [mu_ne (by omega)] at h5; exact h5))⟩
  · rcases (hp j hj).mp z with y | y
    · exact up p hpp (a9 j p hj hpp y hw0 hP)
    · subst y; exact absurd hw0 hw
  · rcases (hp j hj).mp z with y | y
    · by_cases e : j = i
      · subst e; have := y.2; rw [hfr.1] at this; cases this
      · rw [mu_ne2 e, mu_ne (by omega), mu_ne (by omega)]
        exact a11 j hj y
    · subst y
      have := a10 j hj hg hfr.1
      rw [mu_same]
      exact ⟨this, Or.inl ⟨hs, this⟩⟩
  · rcases (hp j hj).mp z with y | y
    · exact a12 j p hj hpp y hP hsp hne
    · subst y; exact absurd (a10 j hj hg hfr.1) hne

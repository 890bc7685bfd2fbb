/-! LANDING: the loop -/
theorem ex_free {ch : Nat} {P : Nat → Int32} {ρ : Nat → Nat} {left : Int32} (hc : ch ≤ 20) (hV : parV ch P) (hρ : ∀ i p, i < ch → p < ch → P i = nI p → ρ p < ρ i) : ∀ m i, ρ i ≤ m → i < ch → bt left i = true → ∃ j, j < ch ∧ free P left j := by
  intro m
  induction m with
  | zero =>
    intro i h1 h2 h3
    refine ⟨i, h2, h3, fun p hp hP => ?_⟩
    rcases hV i h2 with z | ⟨p', p1, p2⟩
    · rw [z, q_no_eq' (by omega)] at hP; exact hP.elim
    · have := hρ i p' h2 p1 p2
      omega
  | succ m ih =>
    intro i h1 h2 h3
    rcases hV i h2 with z | ⟨p', p1, p2⟩
    · refine ⟨i, h2, h3, fun p hp hP => ?_⟩
      rw [z, q_no_eq' (by omega)] at hP; exact hP.elim
    · cases hb : bt left p' with
      | true => exact ih p' (by have := hρ i p' h2 p1 p2; omega) p1 hb
      | false =>
        refine ⟨i, h2, h3, fun p hp hP => ?_⟩
        rw [p2, q_eq (by omega) (by omega)] at hP
        subst hP; exact hb
theorem lnd_next {n0 n : Nat} {gh : rC_gh} {C R M S : rv_Mem} {P : Nat → Int32} {ρ wy : Nat → Nat} {F : Nat → Prop} {g sq left : Int32} (hx : lctx gh C R P ρ wy g sq) (h : lnd n0 gh C R P wy F g sq n M S left) (h11 : R 11 0 = nI (gh.1 0)) (hgc : ∀ i, i < 32 → gh.1 0 ≤ i → bt g i = false) (hne : ¬ left = 0) : ∃ i, i < gh.1 0 ∧ free P left i ∧ f5_nextOf gh M left = some (nI i) ∧ f12_nextOf S left = some (nI i) := by
  obtain ⟨hc, hV, hρ, -⟩ := hx
  have h6 : ∀ i, i < 32 → bt left i = true → bt g i = true := h.2.2.2.2.2.1
  have c11 : S 11 0 = nI (gh.1 0) := by rw [h.2.1.2.1 11 (by omega)]; exact h11
  obtain ⟨i0, i1, i2⟩ : ∃ i, i < 32 ∧ bt left i = true := by
    apply Classical.byContradiction
    intro z
    apply hne
    rw [b_zero]
    intro i hi
    cases hb : bt left i with
    | false => rfl
    | true => exact absurd ⟨i, hi, hb⟩ z
  have i3 : i0 < gh.1 0 := by
    apply Classical.byContradiction
    intro z
    have := hgc i0 i1 (by omega)
    rw [h6 i0 i1 i2] at this; cases this
  obtain ⟨j, j1, j2⟩ := ex_free hc hV hρ (ρ i0) i0 (Nat.le_refl _) i3 i2
  rcases s5_next (left := left) hc (lnd_parC h rfl rfl rfl) hV with ⟨a, a1, a2, a3, a4⟩ | ⟨a1, -⟩
  · rcases s12_next (left := left) hc c11 (lnd_parR h rfl rfl rfl rfl rfl) hV with ⟨b, b1, b2, b3, b4⟩ | ⟨b1, -⟩
    · have e : a = b := by
        rcases Nat.lt_trichotomy a b with z | z | z
        · exact absurd a2 (b3 a z)
        · exact z
        · exact absurd b2 (a3 b z)
      subst e
      exact ⟨a, a1, a2, a4, b4⟩
    · exact absurd j2 (b1 j j1)
  · exact absurd j2 (a1 j j1)
theorem lnd_loop {n0 : Nat} {gh : rC_gh} {C R : rv_Mem} {P : Nat → Int32} {ρ wy : Nat → Nat} {F : Nat → Prop} {g sq who c2 c3 c4 r4 r5 r6 : Int32} (hx : lctx gh C R P ρ wy g sq) (h64 : rv_z (R 64 0) = false) (h11 : R 11 0 = nI (gh.1 0)) (hgc : ∀ i, i < 32 → gh.1 0 ≤ i → bt g i = false) : ∀ (d k na nb n : Nat) (M S : rv_Mem) (left x8 : Int32), cn (bt left) 0 (gh.1 0) ≤ d → d + k ≤ 20 → d + 1 < na → d + 1 < nb → lnd n0 gh C R P wy F g sq n M S left → lex gh C R M S g → (∀ j, j < 32 → (bt x8 j = true ↔ prc g left j ∧ bt sq j = true)) →
    (∃ M' S' x8', f5_tryAll_52 gh na M g c2 c3 c4 left (nI k) = f5_tryAll_87 gh M' c2 c3 c4 ∧ f12_lands_47 nb S who g r4 r5 r6 left x8 true = f12_lands_217 S' who g r4 r5 r6 x8' false ∧ lfr n0 C R M' S' ∧ lex gh C R M' S' g) ∨
    (∃ n' M' S' left' x8', f5_tryAll_52 gh na M g c2 c3 c4 left (nI k) = f5_tryAll_135 gh M' g ∧ f12_lands_47 nb S who g r4 r5 r6 left x8 true = f12_lands_217 S' who g r4 r5 r6 x8' true ∧ lnd n0 gh C R P wy F g sq n' M' S' left' ∧ (∀ i, i < 32 → bt left' i = false) ∧ lex gh C R M' S' g ∧ ∀ j, j < 32 → (bt x8' j = true ↔ prc g left' j ∧ bt sq j = true)) := by
  have hc := hx.1
  intro d
  induction d with
  | zero =>
    intro k na nb n M S left x8 h1 h2 h3 h4 hl hlx hx8
    have hz : left = 0 := by
      apply Classical.byContradiction
      intro hne
      obtain ⟨i, i1, i2, -⟩ := lnd_next hx hl h11 hgc hne
      have := cn_pos (p := bt left) (k := 0) (d := gh.1 0) (j := i) (Nat.zero_le _) (by omega) i2.1
      omega
    obtain ⟨na', rfl⟩ : ∃ m, na = m + 1 := ⟨na - 1, by omega⟩
    obtain ⟨nb', rfl⟩ : ∃ m, nb = m + 1 := ⟨nb - 1, by omega⟩
    right
    refine ⟨n, M, S, left, x8, ?_, ?_, hl, fun i hi => by rw [hz, b_0], hlx, hx8⟩
    · show f5_tryAll_52_s gh (f5_tryAll_52 gh na') M g c2 c3 c4 left (nI k) = _
      unfold f5_tryAll_52_s
      rw [hz]
      by_cases c : nI k < 20
      · rw [if_pos c, if_neg (fun z => z rfl)]
      · rw [if_neg c]
    · show f12_lands_47_s (f12_lands_47 nb') S who g r4 r5 r6 left x8 true = _
      unfold f12_lands_47_s
      rw [hz, if_neg (fun z => z rfl)]
  | succ d ih =>
    intro k na nb n M S left x8 h1 h2 h3 h4 hl hlx hx8
    obtain ⟨na', rfl⟩ : ∃ m, na = m + 1 := ⟨na - 1, by omega⟩
    obtain ⟨nb', rfl⟩ : ∃ m, nb = m + 1 := ⟨nb - 1, by omega⟩
    by_cases hz : left = 0
    · right
      refine ⟨n, M, S, left, x8, ?_, ?_, hl, fun i hi => by rw [hz, b_0], hlx, hx8⟩
      · show f5_tryAll_52_s gh (f5_tryAll_52 gh na') M g c2 c3 c4 left (nI k) = _
        unfold f5_tryAll_52_s
        rw [hz]
        by_cases c : nI k < 20
        · rw [if_pos c, if_neg (fun z => z rfl)]
        · rw [if_neg c]
      · show f12_lands_47_s (f12_lands_47 nb') S who g r4 r5 r6 left x8 true = _
        unfold f12_lands_47_s
        rw [hz, if_neg (fun z => z rfl)]
    · obtain ⟨i, i1, i2, i3, i4⟩ := lnd_next hx hl h11 hgc hz
      have eC : f5_tryAll_52 gh (na' + 1) M g c2 c3 c4 left (nI k) = rv_o2 (f5_tryOne gh M (nI i)) (fun r4 M5 => (if r4 = false then f5_tryAll_87 gh M5 c2 c3 c4 else f5_tryAll_52 gh na' M5 g c2 c3 c4 (lft left i) (nI (k + 1)))) := by
        show f5_tryAll_52_s gh (f5_tryAll_52 gh na') M g c2 c3 c4 left (nI k) = _
        unfold f5_tryAll_52_s
        rw [if_pos (show nI k < 20 by rw [q_20, q_lt (by omega) (by omega)]; omega), if_pos hz, i3, o1_some, q_no, if_pos (show ¬ nI i = NO by rw [q_no_eq (by omega)]; exact fun z => z), q_succ]
        rfl
      have eR : f12_lands_47 (nb' + 1) S who g r4 r5 r6 left x8 true = rv_o2 (f12_landsOne S (nI i) g) (fun v M5 => (if ¬ v = (-2) then f12_lands_86 (f12_lands_47 nb') M5 who g r4 r5 r6 left x8 (nI i) v true else f12_lands_86 (f12_lands_47 nb') M5 who g r4 r5 r6 left x8 (nI i) v false)) := by
        show f12_lands_47_s (f12_lands_47 nb') S who g r4 r5 r6 left x8 true = _
        unfold f12_lands_47_s
        rw [if_pos hz, if_pos rfl, i4, o1_some]
      rw [eC, eR]
      rcases lnd_step hx hl hlx hx8 h64 h11 i1 i2 (f12_lands_47 nb') who r4 r5 r6 with ⟨M', S1, S2, x8', t1, t2, t3, t4, t5⟩ | ⟨n', M', S1, v, S2, x8', t1, t2, t3, t4, t5, t6, t7⟩
      · left
        obtain ⟨nc, rfl⟩ : ∃ m, nb' = m + 1 := ⟨nb' - 1, by omega⟩
        refine ⟨M', S2, x8', by rw [t1, o2_some, if_pos rfl], ?_, t4, t5⟩
        rw [t2, o2_some, if_neg (fun z => z rfl), t3]
        show f12_lands_47_s (f12_lands_47 nc) S2 who g r4 r5 r6 (lft left i) x8' false = _
        unfold f12_lands_47_s
        by_cases c : lft left i = 0
        · rw [if_neg (fun z => z c)]
        · rw [if_pos c, if_neg (by simp)]
      · rw [t1, t2, o2_some, o2_some, if_neg (show ¬ true = false by simp), if_pos (show ¬ v = -2 from t3), t4]
        have h6 : ∀ i, i < 32 → bt left i = true → bt g i = true := hl.2.2.2.2.2.1
        refine ih (k + 1) na' nb' n' M' S2 (lft left i) x8' ?_ (by omega) (by omega) (by omega) t5 t6 t7
        have := cn_bt (x := lft left i) (x' := left) (ch := gh.1 0) hc (fun j hj z => by
          rw [lft_b (by omega) hj, Bool.and_eq_true] at z; exact z.1) (fun j hj hj2 => by
          cases hb : bt left j with
          | false => rfl
          | true =>
            have := hgc j hj hj2
            rw [h6 j hj hb] at this; cases this) (fun z => by
          have e := lft_b (left := left) (i := i) (j := i) (by omega) (by omega)
          rw [← z, i2.1] at e
          simp at e)
        omega
/-- at the end each one has a statement -/
theorem lnd_all {n0 n : Nat} {gh : rC_gh} {C R M S : rv_Mem} {P : Nat → Int32} {ρ wy : Nat → Nat} {F : Nat → Prop} {g sq left : Int32} (hx : lctx gh C R P ρ wy g sq) (h : lnd n0 gh C R P wy F g sq n M S left) (hz : ∀ i, i < 32 → bt left i = false) : ∀ i, i < gh.1 0 → bt g i = true → ∃ c, c < n ∧ M 52 i = nI c ∧ S 18 i = nI c ∧ (S 5 c = NO ∨ S 5 c = nI i) ∧ S 1 c = C (100 + i) 2 := by
  have hsqp := fun p (hp : p < gh.1 0) (hs : bt sq p = true) => lctx_sq hx hp hs
  have hc := hx.1
  have hρ := hx.2.2.1
  obtain ⟨a1, a2, a3, a4, a5, a6, a7, a8, a9, a10, a11, a12⟩ := h
  have pr : ∀ i, i < gh.1 0 → bt g i = true → prc g left i := fun i hi hg => ⟨hg, hz i (by omega)⟩
  obtain ⟨B, hB⟩ : ∃ B, ∀ i, i < gh.1 0 → ρ i < B := by
    have : ∀ m, ∃ B, ∀ i, i < m → ρ i < B := by
      intro m
      induction m with
      | zero => exact ⟨0, fun i hi => absurd hi (Nat.not_lt_zero _)⟩
      | succ m ih =>
        obtain ⟨B, hB⟩ := ih
        refine ⟨B + ρ m + 1, fun i hi => ?_⟩
        by_cases e : i = m
        · subst e; omega
        · have := hB i (by omega); omega
    exact this _
  have key : ∀ m i, i < gh.1 0 → bt g i = true → B - ρ i ≤ m → M 52 i ≠ NO := by
    intro m
    induction m with
    | zero => intro i hi _ hm; have := hB i hi; omega
    | succ m ih =>
      intro i hi hg hm hno
      obtain ⟨-, e⟩ := a11 i hi (pr i hi hg)
      rcases e with ⟨e1, -⟩ | ⟨c, c1, c2, -⟩
      · obtain ⟨-, -, k, k1, k2, k3⟩ := hsqp i hi e1
        have h1 := hρ k i k1 hi k3
        have h2 := hB k k1
        exact a12 k i k1 hi (pr k k1 k2) k3 e1 (ih k k1 k2 (by omega)) hno
      · rw [c2, q_no_eq (by have := a3.n80; omega)] at hno; exact hno
  intro i hi hg
  obtain ⟨e0, e⟩ := a11 i hi (pr i hi hg)
  have := key _ i hi hg (Nat.le_refl _)
  rcases e with ⟨-, e1⟩ | ⟨c, c1, c2, c3, c4⟩
  · exact absurd e1 this
  · exact ⟨c, c1, c2, by rw [← e0]; exact c2, c3, c4⟩

/-! LANDING: names -/
theorem s5_names {gh : rC_gh} {M : rv_Mem} {g x : Int32} (hc : gh.1 0 ≤ 20) (h65 : M 6 5 = x) (hst : ∀ i, i < gh.1 0 → bt g i = true → bt x i = false → ∃ c, c < 80 ∧ M 52 i = nI c) :
    ∃ M', f5_nameCommits gh M g = some M' ∧ (∀ q, q ≠ 18 → (∀ i, i < gh.1 0 → q ≠ 100 + i) → M' q = M q) ∧ (∀ i, i < gh.1 0 → (bt g i = true → M' (100 + i) 12 = M 52 i) ∧ (bt g i = false → M' (100 + i) 12 = M (100 + i) 12) ∧ ∀ j, j ≠ 12 → M' (100 + i) j = M (100 + i) j) ∧ ∀ c, M' 18 c = up (fun i (a : Int32) => if bt g i = true ∧ bt x i = false ∧ M 52 i = nI c then nI i else a) (gh.1 0) 0 (M 18 c) ∨ 80 ≤ c := by
  have L := rv_ui (z := (fun _ _ _ => none)) (F := f5_nameCommits_2_s gh) (fun t i M1 => t M1 g (nI i)) (gh.1 0) (fun k M1 => (∀ q, q ≠ 18 → (∀ i, i < gh.1 0 → q ≠ 100 + i) → M1 q = M q) ∧ (∀ i, k ≤ i → M1 (100 + i) = M (100 + i) ∨ gh.1 0 ≤ i) ∧ (∀ i, i < k → (bt g i = true → M1 (100 + i) 12 = M 52 i) ∧ (bt g i = false → M1 (100 + i) 12 = M (100 + i) 12) ∧ ∀ j, j ≠ 12 → M1 (100 + i) j = M (100 + i) j) ∧ ∀ c, c < 80 → M1 18 c = up (fun i (a : Int32) => if bt g i = true ∧ bt x i = false ∧ M 52 i = nI c then nI i else a) k 0 (M 18 c)) some ?_ ?_ rv_FU 0 M (Nat.zero_le _) (FU_lt (by omega)) ⟨fun _ _ _ => rfl, fun _ _ => Or.inl rfl, fun i hi => absurd hi (Nat.not_lt_zero _), fun _ _ => rfl⟩
  · obtain ⟨M', ⟨x1, x2, x3, x4⟩, x5⟩ := L
    refine ⟨M', x5, x1, x3, fun c => ?_⟩
    by_cases hc : c < 80
    · exact Or.inl (x4 c hc)
    · exact Or.inr (by omega)
  · rintro t k M1 hk ⟨i1, i2, i3, i4⟩
    have hMk : M1 (100 + k) = M (100 + k) := (i2 k (Nat.le_refl _)).elim id (fun z => by omega)
    have e52 : M1 52 = M 52 := i1 52 (by omega) (fun i hi => by omega)
    have e6 : M1 6 = M 6 := i1 6 (by omega) (fun i hi => by omega)
    show ∃ M', _ ∧ f5_nameCommits_2_s gh t M1 g (nI k) = t M' g (nI (k + 1))
    unfold f5_nameCommits_2_s f5_nameCommits_68
    rw [if_pos (show nI k < nI (gh.1 0) by rw [q_lt (by omega) (by omega)]; exact hk), s11_isIn (by omega), o1_some, q_succ]
    cases hb : bt g k with
    | false =>
      rw [if_neg (by simp)]
      refine ⟨M1, ⟨i1, fun i hi => i2 i (by omega), fun i hi => ?_, fun c hc => ?_⟩, rfl⟩
      · by_cases e : i = k
        · subst e; exact ⟨fun z => (by rw [hb] at z; cases z), fun _ => by rw [hMk], fun j _ => by rw [hMk]⟩
        · exact i3 i (by omega)
      · rw [up_snoc, Nat.zero_add, if_neg (fun z => by rw [hb] at z; cases z.1)]; exact i4 c hc
    | true =>
      rw [if_pos rfl, s9_read (L := 20) (show k < 20 by omega) rfl rfl (by omega), o1_some, if_pos (q_inb hk (by omega)), q_nc (by omega), if_pos (is1 hk hc), lt_do, mu_ne (by omega), e6, h65, s11_isIn (by omega), o1_some, e52]
      have fr : ∀ q, q ≠ 100 + k → rv_u M1 (100 + k) 12 (M 52 k) q = M1 q := fun q hq => mu_ne hq
      have rows : ∀ i, i < k + 1 → (bt g i = true → rv_u M1 (100 + k) 12 (M 52 k) (100 + i) 12 = M 52 i) ∧ (bt g i = false → rv_u M1 (100 + k) 12 (M 52 k) (100 + i) 12 = M (100 + i) 12) ∧ ∀ j, j ≠ 12 → rv_u M1 (100 + k) 12 (M 52 k) (100 + i) j = M (100 + i) j := fun i hi => by
        by_cases e : i = k
        · subst e
          exact ⟨fun _ => mu_same _ _ _ _, fun z => (by rw [hb] at z; cases z), fun j hj => by rw [mu_ne2 hj, hMk]⟩
        · rw [fr (100 + i) (by omega)]; exact i3 i (by omega)
      cases hx : bt x k with
      | true =>
        rw [if_neg (by simp)]
        refine ⟨_, ⟨fun q h1 h2 => by rw [fr q (h2 k hk), i1 q h1 h2], fun i hi => ?_, rows, fun c hc => ?_⟩, rfl⟩
        · rw [fr (100 + i) (by omega)]; exact i2 i (by omega)
        · rw [fr 18 (by omega), up_snoc, Nat.zero_add, if_neg (fun z => by rw [hx] at z; cases z.2.1)]; exact i4 c hc
      | false =>
        obtain ⟨c, c1, c2⟩ := hst k hk hb hx
        rw [if_pos rfl, c2, s9_write (L := 82) (show c < 82 by omega) rfl rfl (by omega), o1_some]
        rw [c2] at rows
        refine ⟨_, ⟨fun q h1 h2 => by rw [mu_ne h1, mu_ne (h2 k hk), i1 q h1 h2], fun i hi => ?_, fun i hi => ?_, fun c' hc' => ?_⟩, rfl⟩
        · rw [mu_ne (by omega), mu_ne (by omega)]; exact i2 i (by omega)
        · rw [mu_ne (by omega)]; exact rows i hi
        · rw [up_snoc, Nat.zero_add]
          by_cases e : c' = c
          · subst e
            rw [mu_same, if_pos ⟨hb, hx, c2⟩]
          · rw [mu_ne2 e, mu_ne (by omega), if_neg (fun z => by
              have := z.2.2
              rw [c2, q_eq (by omega) (by omega)] at this
              exact e this.symm)]
            exact i4 c' hc'
  · rintro t M1 _
    show f5_nameCommits_2_s gh t M1 g (nI (gh.1 0)) = _
    unfold f5_nameCommits_2_s
    rw [if_neg (show ¬ nI (gh.1 0) < nI (gh.1 0) by rw [q_lt (by omega) (by omega)]; omega)]
theorem s12_names {ch : Nat} {S : rv_Mem} {g x : Int32} (hc : ch ≤ 20) (h11 : S 11 0 = nI ch) (hst : ∀ i, i < ch → bt g i = true → bt x i = false → ∃ c, c < 80 ∧ S 18 i = nI c) :
    ∃ S', f12_names S g x = some S' ∧ (∀ q, q ≠ 8 → S' q = S q) ∧ ∀ c, S' 8 c = up (fun i (a : Int32) => if bt g i = true ∧ bt x i = false ∧ S 18 i = nI c then nI i else a) ch 0 (S 8 c) ∨ 80 ≤ c := by
  have L := rv_ui (z := (fun _ _ _ _ => none)) (F := f12_names_2_s) (fun t i M1 => t M1 g x (nI i)) ch (fun k M1 => (∀ q, q ≠ 8 → M1 q = S q) ∧ ∀ c, c < 80 → M1 8 c = up (fun i (a : Int32) => if bt g i = true ∧ bt x i = false ∧ S 18 i = nI c then nI i else a) k 0 (S 8 c)) some ?_ ?_ rv_FU 0 S (Nat.zero_le _) (FU_lt (by omega)) ⟨fun _ _ => rfl, fun _ _ => rfl⟩
  · obtain ⟨S', ⟨x1, x2⟩, x3⟩ := L
    refine ⟨S', x3, x1, fun c => ?_⟩
    by_cases hc : c < 80
    · exact Or.inl (x2 c hc)
    · exact Or.inr (by omega)
  · rintro t k M1 hk ⟨i1, i4⟩
    show ∃ M', _ ∧ f12_names_2_s t M1 g x (nI k) = t M' g x (nI (k + 1))
    unfold f12_names_2_s f12_names_38
    rw [i1 11 (by omega), h11, if_pos (show nI k < nI ch by rw [q_lt (by omega) (by omega)]; exact hk), s12_isOf (by omega), o1_some, q_succ]
    cases hb : bt g k with
    | false =>
      rw [if_neg (by simp)]
      refine ⟨M1, ⟨i1, fun c hc => ?_⟩, rfl⟩
      rw [up_snoc, Nat.zero_add, if_neg (fun z => by rw [hb] at z; cases z.1)]; exact i4 c hc
    | true =>
      rw [if_pos rfl, s12_isOf (by omega), o1_some]
      cases hx : bt x k with
      | true =>
        rw [if_neg (by simp)]
        refine ⟨M1, ⟨i1, fun c hc => ?_⟩, rfl⟩
        rw [up_snoc, Nat.zero_add, if_neg (fun z => by rw [hx] at z; cases z.2.1)]; exact i4 c hc
      | false =>
        obtain ⟨c, c1, c2⟩ := hst k hk hb hx
        have k20 : rv_in (nI k) 20 = true := q_inb (by omega) (by omega)
        rw [if_pos rfl, if_pos k20, q_nc (by omega), i1 18 (by omega), c2, if_pos (q_inb (show c < 82 by omega) (by omega)), q_nc (by omega), lt_do]
        refine ⟨_, ⟨fun q hq => by rw [mu_ne hq]; exact i1 q hq, fun c' hc' => ?_⟩, rfl⟩
        rw [up_snoc, Nat.zero_add]
        by_cases e : c' = c
        · subst e
          rw [mu_same, if_pos ⟨hb, hx, c2⟩]
        · rw [mu_ne2 e, if_neg (fun z => by
            have := z.2.2
            rw [c2, q_eq (by omega) (by omega)] at this
            exact e this.symm)]
          exact i4 c' hc'
  · rintro t M1 ⟨i1, -⟩
    show f12_names_2_s t M1 g x (nI ch) = _
    unfold f12_names_2_s
    rw [i1 11 (by omega), h11, if_neg (show ¬ nI ch < nI ch by rw [q_lt (by omega) (by omega)]; omega)]

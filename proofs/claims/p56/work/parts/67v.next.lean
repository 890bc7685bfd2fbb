/-! LANDING: squashed changes, and the next one -/
/-- what P says of the parents, on both sides -/
def parC (gh : rC_gh) (M : rv_Mem) (P : Nat → Int32) : Prop := ∀ i, i < gh.1 0 → f9_parentNumber gh M (nI i) = some (P i)
def parR (ch : Nat) (S : rv_Mem) (P : Nat → Int32) : Prop := ∀ i, i < ch → f12_parent S (nI i) = some (P i)
def parV (ch : Nat) (P : Nat → Int32) : Prop := ∀ i, i < ch → P i = NO ∨ ∃ p, p < ch ∧ P i = nI p
theorem s12_isOf {g : Int32} {i : Nat} (hi : i < 32) : f12_isOf g (nI i) = some (bt g i) := by
  have tst : ((g >>> (nI i &&& 31)) &&& 1 = 1) = (bt g i = true) := b_test hi
  unfold f12_isOf
  cases hb : bt g i with
  | true => rw [if_pos (by rw [tst]; exact hb)]
  | false => rw [if_neg (by rw [tst, hb]; simp)]
def sqd (ch : Nat) (P : Nat → Int32) (wy : Nat → Nat) (g : Int32) (p : Nat) : Prop := ∃ i, i < ch ∧ bt g i = true ∧ P i = nI p ∧ bt g p = true ∧ wy i = 2
theorem s5_squashed {gh : rC_gh} {M : rv_Mem} {P : Nat → Int32} {wy : Nat → Nat} {g : Int32} (hc : gh.1 0 ≤ 20) (hP : parC gh M P) (hV : parV (gh.1 0) P) (hw : ∀ i, i < gh.1 0 → f9_read gh M 51 (M (100 + i) 2) = some (nI (wy i)) ∧ wy i < 3) : ∃ x, f5_findSquashed gh M g = some x ∧ ∀ p, p < 32 → (bt x p = true ↔ sqd (gh.1 0) P wy g p) := by
  have L := rv_ui (z := (fun _ _ _ => none)) (F := f5_findSquashed_4_s gh M) (fun t i x => t g x (nI i)) (gh.1 0) (fun i x => ∀ p, p < 32 → (bt x p = true ↔ ∃ j, j < i ∧ bt g j = true ∧ P j = nI p ∧ bt g p = true ∧ wy j = 2)) some ?_ ?_ rv_FU 0 (0 : Int32) (Nat.zero_le _) (FU_lt (by omega)) (fun p _ => by rw [b_0]; exact ⟨fun z => (by cases z), fun ⟨j, hj, _⟩ => absurd hj (Nat.not_lt_zero _)⟩)
  · obtain ⟨x, x1, x2⟩ := L
    exact ⟨x, x2, x1⟩
  · intro t i x hi hI
    obtain ⟨w1, w2⟩ := hw i hi
    -- nothing new
    have keep : ¬ (bt g i = true ∧ wy i = 2 ∧ ∃ p, p < gh.1 0 ∧ P i = nI p ∧ bt g p = true) → ∀ p, p < 32 → (bt x p = true ↔ ∃ j, j < i + 1 ∧ bt g j = true ∧ P j = nI p ∧ bt g p = true ∧ wy j = 2) := fun hno p hp => by
      rw [hI p hp]
      constructor
      · rintro ⟨j, j1, j2⟩; exact ⟨j, by omega, j2⟩
      · rintro ⟨j, j1, j2, j3, j4, j5⟩
        by_cases e : j = i
        · subst e
          exfalso
          apply hno
          rcases hV j hi with z | ⟨p', z1, z2⟩
          · rw [z, q_no_eq' (by omega)] at j3; exact j3.elim
          · rw [z2, q_eq (by omega) (by omega)] at j3
            subst j3
            exact ⟨j2, j5, p', z1, z2, j4⟩
        · exact ⟨j, by omega, j2, j3, j4, j5⟩
    show ∃ x', _ ∧ f5_findSquashed_4_s gh M t g x (nI i) = t g x' (nI (i + 1))
    unfold f5_findSquashed_4_s f5_findSquashed_52 f5_findSquashed_53 f5_findSquashed_92
    rw [if_pos (show nI i < nI (gh.1 0) by rw [q_lt (by omega) (by omega)]; exact hi), hP i hi, o1_some, s11_isIn (by omega), o1_some, q_succ]
    cases hb : bt g i with
    | false =>
      rw [if_neg (by simp), if_neg (by simp)]
      exact ⟨x, keep (fun z => by rw [hb] at z; cases z.1), rfl⟩
    | true =>
      rw [if_pos rfl]
      rcases hV i hi with z | ⟨p, z1, z2⟩
      · rw [z, q_no, if_neg (fun y => y rfl), if_neg (by simp)]
        refine ⟨x, keep (fun ⟨_, _, p, p1, p2, _⟩ => ?_), rfl⟩
        rw [z, q_no_eq' (by omega)] at p2; exact p2
      · rw [z2, q_no, if_pos (show ¬ nI p = NO by rw [q_no_eq (by omega)]; exact fun y => y), s11_isIn (by omega), o1_some]
        cases hb2 : bt g p with
        | false =>
          rw [if_neg (by simp), if_neg (by simp)]
          refine ⟨x, keep (fun ⟨_, _, p', p1, p2, p3⟩ => ?_), rfl⟩
          rw [z2, q_eq (by omega) (by omega)] at p2
          subst p2; rw [hb2] at p3; cases p3
        | true =>
          rw [if_pos rfl, if_pos rfl, if_pos (q_inb hi (by omega)), q_nc (by omega), if_pos (is1 hi hc), w1, o1_some]
          by_cases c : wy i = 2
          · rw [if_pos (show nI (wy i) = 2 by rw [c]; rfl)]
            refine ⟨x ||| ((1 : Int32) <<< (nI p &&& 31)), fun p' hp' => ?_, rfl⟩
            rw [b_or, Bool.or_eq_true, hI p' hp', b_shl1 p (by omega) p' hp', decide_eq_true_iff]
            constructor
            · rintro (⟨j, j1, j2⟩ | rfl)
              · exact ⟨j, by omega, j2⟩
              · exact ⟨i, by omega, hb, z2, hb2, c⟩
            · rintro ⟨j, j1, j2, j3, j4, j5⟩
              by_cases e : j = i
              · subst e
                right
                rw [z2, q_eq (by omega) (by omega)] at j3
                exact j3.symm
              · exact Or.inl ⟨j, by omega, j2, j3, j4, j5⟩
          · rw [if_neg (show ¬ nI (wy i) = 2 by rw [q_2, q_eq (by omega) (by omega)]; exact c)]
            exact ⟨x, keep (fun y => c y.2.1), rfl⟩
  · intro t x _
    show f5_findSquashed_4_s gh M t g x (nI (gh.1 0)) = _
    unfold f5_findSquashed_4_s
    rw [if_neg (show ¬ nI (gh.1 0) < nI (gh.1 0) by rw [q_lt (by omega) (by omega)]; omega)]
/-- may go now -/
def free (P : Nat → Int32) (left : Int32) (i : Nat) : Prop := bt left i = true ∧ ∀ p, p < 32 → P i = nI p → bt left p = false
theorem s5_next {gh : rC_gh} {M : rv_Mem} {P : Nat → Int32} {left : Int32} (hc : gh.1 0 ≤ 20) (hP : parC gh M P) (hV : parV (gh.1 0) P) : (∃ i, i < gh.1 0 ∧ free P left i ∧ (∀ j, j < i → ¬ free P left j) ∧ f5_nextOf gh M left = some (nI i)) ∨ ((∀ j, j < gh.1 0 → ¬ free P left j) ∧ f5_nextOf gh M left = some NO) := by
  refine rv_ux (z := (fun _ _ => none)) (F := f5_nextOf_2_s gh M) (fun t i (_ : Unit) => t left (nI i)) (gh.1 0) (fun i _ => ∀ j, j < i → ¬ free P left j) (fun r => (∃ i, i < gh.1 0 ∧ free P left i ∧ (∀ j, j < i → ¬ free P left j) ∧ r = some (nI i)) ∨ ((∀ j, j < gh.1 0 → ¬ free P left j) ∧ r = some NO)) ?_ ?_ rv_FU 0 () (Nat.zero_le _) (FU_lt (by omega)) (fun j hj => absurd hj (Nat.not_lt_zero _))
  · intro t i _ hi hI
    have step : (free P left i ∧ f5_nextOf_2_s gh M t left (nI i) = some (nI i)) ∨ (¬ free P left i ∧ f5_nextOf_2_s gh M t left (nI i) = t left (nI (i + 1))) := by
      unfold f5_nextOf_2_s f5_nextOf_45
      rw [if_pos (show nI i < nI (gh.1 0) by rw [q_lt (by omega) (by omega)]; exact hi), hP i hi, o1_some, s11_isIn (by omega), o1_some, q_succ]
      cases hb : bt left i with
      | false =>
        right
        exact ⟨fun z => (by rw [z.1] at hb; cases hb), by rw [if_neg (by simp)]⟩
      | true =>
        rw [if_pos rfl]
        rcases hV i hi with z | ⟨p, z1, z2⟩
        · left
          refine ⟨⟨hb, fun p hp hpp => ?_⟩, by rw [z, q_no, if_neg (fun y => y rfl)]⟩
          rw [z, q_no_eq' (by omega)] at hpp; exact hpp.elim
        · rw [z2, q_no, if_pos (show ¬ nI p = NO by rw [q_no_eq (by omega)]; exact fun y => y), s11_isIn (by omega), o1_some]
          cases hb2 : bt left p with
          | false =>
            left
            refine ⟨⟨hb, fun p' hp hpp => ?_⟩, by rw [if_pos rfl]⟩
            rw [z2, q_eq (by omega) (by omega)] at hpp
            subst hpp; exact hb2
          | true =>
            right
            exact ⟨fun z => (by have := z.2 p (by omega) z2; rw [hb2] at this; cases this), by rw [if_neg (by simp)]⟩
    rcases step with ⟨s1, s2⟩ | ⟨s1, s2⟩
    · left; left
      exact ⟨i, hi, s1, hI, s2⟩
    · right
      refine ⟨(), fun j hj => ?_, s2⟩
      by_cases e : j = i
      · subst e; exact s1
      · exact hI j (by omega)
  · intro t _ hI
    right
    refine ⟨hI, ?_⟩
    show f5_nextOf_2_s gh M t left (nI (gh.1 0)) = _
    unfold f5_nextOf_2_s
    rw [if_neg (show ¬ nI (gh.1 0) < nI (gh.1 0) by rw [q_lt (by omega) (by omega)]; omega), q_no]
theorem s12_next {ch : Nat} {S : rv_Mem} {P : Nat → Int32} {left : Int32} (hc : ch ≤ 20) (h11 : S 11 0 = nI ch) (hP : parR ch S P) (hV : parV ch P) : (∃ i, i < ch ∧ free P left i ∧ (∀ j, j < i → ¬ free P left j) ∧ f12_nextOf S left = some (nI i)) ∨ ((∀ j, j < ch → ¬ free P left j) ∧ f12_nextOf S left = some NO) := by
  have start : f12_nextOf S left = f12_nextOf_9 S rv_FU left NO (dn ch) := by
    unfold f12_nextOf
    rw [h11, q_no]
    cases ch with
    | zero => rfl
    | succ k => rw [q_1, q_sub (by omega), Nat.add_sub_cancel]; rfl
  rw [start]
  have L := rv_ud (z := (fun _ _ _ => none)) (F := f12_nextOf_9_s S) (fun t k x => t left x (dn k)) 0 (fun k x => k ≤ ch ∧ ((∃ i, i < ch ∧ k ≤ i ∧ free P left i ∧ (∀ j, k ≤ j → j < i → ¬ free P left j) ∧ x = nI i) ∨ ((∀ j, k ≤ j → j < ch → ¬ free P left j) ∧ x = NO))) some ?_ ?_ rv_FU ch NO (Nat.zero_le _) (FU_lt (by omega)) ⟨Nat.le_refl _, Or.inr ⟨fun j h1 h2 => by omega, rfl⟩⟩
  · obtain ⟨x, ⟨-, x1⟩, x2⟩ := L
    have x2 : f12_nextOf_9 S rv_FU left NO (dn ch) = some x := x2
    rw [x2]
    rcases x1 with ⟨i, i1, i2, i3, i4, rfl⟩ | ⟨i1, rfl⟩
    · exact Or.inl ⟨i, i1, i3, fun j hj => i4 j (Nat.zero_le _) hj, rfl⟩
    · exact Or.inr ⟨fun j hj => i1 j (Nat.zero_le _) hj, rfl⟩
  · rintro t k' x hk' ⟨h0, hI⟩
    obtain ⟨i, rfl⟩ : ∃ i, k' = i + 1 := ⟨k' - 1, by omega⟩
    have hi : i < ch := by omega
    have step : (free P left i ∧ f12_nextOf_9_s S t left x (nI i) = t left (nI i) (dn i)) ∨ (¬ free P left i ∧ f12_nextOf_9_s S t left x (nI i) = t left x (dn i)) := by
      unfold f12_nextOf_9_s f12_nextOf_42 f12_nextOf_46 f12_nextOf_47 f12_nextOf_59
      rw [if_pos (show 0 ≤ nI i by rw [q_0, q_le (by omega) (by omega)]; omega), s12_isOf (by omega), o1_some, dn_m1]
      cases hb : bt left i with
      | false =>
        right
        exact ⟨fun z => (by rw [z.1] at hb; cases hb), by rw [if_neg (by simp), if_neg (by simp)]⟩
      | true =>
        rw [if_pos rfl, hP i hi, o1_some]
        rcases hV i hi with z | ⟨p, z1, z2⟩
        · left
          refine ⟨⟨hb, fun p hp hpp => ?_⟩, by rw [z, q_no, if_neg (fun y => y rfl), if_pos rfl]⟩
          rw [z, q_no_eq' (by omega)] at hpp; exact hpp.elim
        · rw [z2, q_no, if_pos (show ¬ nI p = NO by rw [q_no_eq (by omega)]; exact fun y => y), o1_some, s12_isOf (by omega), o1_some]
          cases hb2 : bt left p with
          | false =>
            left
            refine ⟨⟨hb, fun p' hp hpp => ?_⟩, by rw [if_pos rfl, if_pos rfl]⟩
            rw [z2, q_eq (by omega) (by omega)] at hpp
            subst hpp; exact hb2
          | true =>
            right
            exact ⟨fun z => (by have := z.2 p (by omega) z2; rw [hb2] at this; cases this), by rw [if_neg (by simp), if_neg (by simp)]⟩
    show ∃ x', (i + 1 - 1 ≤ ch ∧ _) ∧ f12_nextOf_9_s S t left x (nI i) = t left x' (dn i)
    rcases step with ⟨s1, s2⟩ | ⟨s1, s2⟩
    · exact ⟨nI i, ⟨by omega, Or.inl ⟨i, hi, by omega, s1, fun j h1 h2 => by omega, rfl⟩⟩, s2⟩
    · refine ⟨x, ⟨by omega, ?_⟩, s2⟩
      rcases hI with ⟨m, m1, m2, m3, m4, m5⟩ | ⟨m1, m2⟩
      · refine Or.inl ⟨m, m1, by omega, m3, fun j h1 h2 => ?_, m5⟩
        by_cases e : j = i
        · subst e; exact s1
        · exact m4 j (by omega) h2
      · refine Or.inr ⟨fun j h1 h2 => ?_, m2⟩
        by_cases e : j = i
        · subst e; exact s1
        · exact m1 j (by omega) h2
  · rintro t x ⟨-, -⟩
    show f12_nextOf_9_s S t left x NO = _
    unfold f12_nextOf_9_s
    rw [if_neg (by decide)]

/-! MERGED ROWS, the class -/
def good (O A B : List Int32) : Prop := ¬ conf O A B ∧ (mgd O A B).length ≤ 10
def m8 (M C : rv_Mem) : Prop := (∀ k, k ≠ 7 → k ≠ 8 → k ≠ 14 → k ≠ 15 → (k < 24 ∨ 40 < k) → M k = C k) ∧ (∀ i, i < 324 → M 15 i = C 15 i) ∧ ∀ i, i < 3240 → M 14 i = C 14 i
theorem s2_mergeRows {gh : rC_gh} {C : rv_Mem} {c0 c1 c2 : Nat} {O A B : Nat → List Int32} (h0 : c0 < 81) (h1 : c1 < 81) (h2 : c2 < 81) (hO : ∀ f, f < 4 → fileC C c0 f (O f)) (hA : ∀ f, f < 4 → fileC C c1 f (A f)) (hB : ∀ f, f < 4 → fileC C c2 f (B f)) :
    ∃ ok M', f2_mergeRows gh C (nI c0) (nI c1) (nI c2) = some (ok, M') ∧ m8 M' C ∧ (ok = true ↔ ∀ f, f < 4 → good (O f) (A f) (B f)) ∧ (ok = true → ∀ f, f < 4 → fileC M' 81 f (mgd (O f) (A f) (B f))) := by
  have fM : ∀ M, m8 M C → ∀ c f X, c < 81 → f < 4 → fileC C c f X → fileC M c f X := fun M hM c f X hc hf hX => by
    obtain ⟨x1, x2, x3⟩ := hX
    exact ⟨x1, by rw [hM.2.1 _ (by omega)]; exact x2, fun p hp => by rw [hM.2.2 _ (by omega)]; exact x3 p hp⟩
  refine rv_ux (z := (fun _ _ _ _ _ => none)) (F := f2_mergeRows_3_s gh) (fun t k M => t M (nI c0) (nI c1) (nI c2) (nI k)) 4 (fun k M => m8 M C ∧ (∀ f, f < k → good (O f) (A f) (B f) ∧ fileC M 81 f (mgd (O f) (A f) (B f)))) (fun r => ∃ ok M', r = some (ok, M') ∧ m8 M' C ∧ (ok = true ↔ ∀ f, f < 4 → good (O f) (A f) (B f)) ∧ (ok = true → ∀ f, f < 4 → fileC M' 81 f (mgd (O f) (A f) (B f)))) ?_ ?_ rv_FU 0 C (Nat.zero_le _) (FU_lt (by omega)) ⟨⟨fun _ _ _ _ _ _ => rfl, fun _ _ => rfl, fun _ _ => rfl⟩, fun f hf => absurd hf (Nat.not_lt_zero _)⟩
  · rintro t k M hk ⟨i1, i2⟩
    obtain ⟨M1, p1, p2, p3⟩ := s3_compare (gh := gh) (o := 7) false (Or.inl rfl) (show c0 < 82 by omega) (show c1 < 82 by omega) hk (fM M i1 c0 k _ h0 hk (hO k hk)) (fM M i1 c1 k _ h1 hk (hA k hk))
    have y15 : M1 15 = M 15 := p2 15 (by omega) (fun j hj => by omega)
    have y14 : M1 14 = M 14 := p2 14 (by omega) (fun j hj => by omega)
    obtain ⟨M2, q1, q2, q3⟩ := s3_compare (gh := gh) (o := 8) false (Or.inr rfl) (show c0 < 82 by omega) (show c2 < 82 by omega) hk (fileC_of y15 y14 (fM M i1 c0 k _ h0 hk (hO k hk))) (fileC_of y15 y14 (fM M i1 c2 k _ h2 hk (hB k hk)))
    have p4 : cmpd M2 7 ((O k).map (wd false)) ((A k).map (wd false)) := by
      have k7 : M2 7 = M1 7 := q2 7 (by omega) (fun j hj => by omega)
      have k25 : M2 (7 + 18) = M1 (7 + 18) := q2 _ (by omega) (fun j hj => by omega)
      have k27 : M2 (7 + 20) = M1 (7 + 20) := q2 _ (by omega) (fun j hj => by omega)
      have k31 : M2 (7 + 24) = M1 (7 + 24) := q2 _ (by omega) (fun j hj => by omega)
      have k33 : M2 (7 + 26) = M1 (7 + 26) := q2 _ (by omega) (fun j hj => by omega)
      have k35 : M2 (7 + 28) = M1 (7 + 28) := q2 _ (by omega) (fun j hj => by omega)
      have k37 : M2 (7 + 30) = M1 (7 + 30) := q2 _ (by omega) (fun j hj => by omega)
      have k39 : M2 (7 + 32) = M1 (7 + 32) := q2 _ (by omega) (fun j hj => by omega)
      unfold cmpd hokC at p3 ⊢
      rw [k7, k25, k27, k31, k33, k35, k37, k39]
      exact p3
    rw [wd_false, wd_false] at p4 q3
    have y : ∀ q, q ≠ 7 → q ≠ 8 → (q < 24 ∨ 40 < q) → M2 q = M q := fun q a b c => by rw [q2 q b (fun j hj => by omega), p2 q a (fun j hj => by omega)]
    have m2 : m8 M2 C := ⟨fun q a b c d e => by rw [y q a b e, i1.1 q a b c d e], fun i hi => by rw [y 15 (by omega) (by omega) (by omega)]; exact i1.2.1 i hi, fun i hi => by rw [y 14 (by omega) (by omega) (by omega)]; exact i1.2.2 i hi⟩
    have lO := (hO k hk).1
    have lA := (hA k hk).1
    have lB := (hB k hk).1
    obtain ⟨b, b1, b2⟩ := s3_conflict (gh := gh) lO lA lB p4 q3
    have e0 : f2_mergeRows_3_s gh t M (nI c0) (nI c1) (nI c2) (nI k) = if b = false then rv_o2 (f2_makeMergedFile gh M2 (nI k)) (fun r8 M9 => (if r8 = false then (some (false, M9)) else t M9 (nI c0) (nI c1) (nI c2) (nI (k + 1)))) else (some (false, M2)) := by
      unfold f2_mergeRows_3_s
      rw [q_4, if_pos (by rw [q_lt (by omega) (by omega)]; exact hk), p1, o1_some, q1, o1_some, b1, o1_some, q_succ]
    show (∃ ok M', f2_mergeRows_3_s gh t M (nI c0) (nI c1) (nI c2) (nI k) = some (ok, M') ∧ _) ∨ ∃ a' : rv_Mem, _ ∧ f2_mergeRows_3_s gh t M (nI c0) (nI c1) (nI c2) (nI k) = _
    rw [e0]
    cases b with
    | true =>
      left
      rw [if_neg (by simp)]
      exact ⟨false, M2, rfl, m2, ⟨fun z => (by cases z), fun z => absurd (b2.mp rfl) (z k hk).1⟩, fun z => (by cases z)⟩
    | false =>
      rw [if_pos rfl]
      have nc : ¬ conf (O k) (A k) (B k) := fun z => by have := b2.mpr z; cases this
      obtain ⟨ok, M3, w1, w2, w3, w4⟩ := s2_mergedFile (gh := gh) hk lO lA lB p4 q3
      rw [w1, o2_some]
      have m3 : m8 M3 C := ⟨fun q a b c d e => by rw [w2.1 q c d, m2.1 q a b c d e], fun i hi => by rw [w2.2.1 i (by omega)]; exact m2.2.1 i hi, fun i hi => by rw [w2.2.2 i (by omega)]; exact m2.2.2 i hi⟩
      cases ok with
      | false =>
        left
        rw [if_pos rfl]
        exact ⟨false, M3, rfl, m3, ⟨fun z => (by cases z), fun z => by have := w3.mpr (z k hk).2; cases this⟩, fun z => (by cases z)⟩
      | true =>
        right
        rw [if_neg (by simp)]
        refine ⟨M3, ⟨m3, fun f hf => ?_⟩, rfl⟩
        by_cases e : f = k
        · subst e
          exact ⟨⟨nc, w3.mp rfl⟩, w4 rfl⟩
        · obtain ⟨g1, g2, g3, g4⟩ := i2 f (by omega)
          refine ⟨g1, g2, ?_, fun p hp => ?_⟩
          · rw [w2.2.1 _ (by omega), y 15 (by omega) (by omega) (by omega)]; exact g3
          · rw [w2.2.2 _ (by omega), y 14 (by omega) (by omega) (by omega)]; exact g4 p hp
  · rintro t M ⟨i1, i2⟩
    refine ⟨true, M, ?_, i1, ⟨fun _ f hf => (i2 f hf).1, fun _ => rfl⟩, fun _ f hf => (i2 f hf).2⟩
    show f2_mergeRows_3_s gh t M (nI c0) (nI c1) (nI c2) (nI 4) = _
    unfold f2_mergeRows_3_s
    rw [if_neg (by decide)]

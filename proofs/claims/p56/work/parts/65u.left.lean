/-! DIFFERENCES -/
theorem Rn_cmp {n : Nat} {gh : rC_gh} {C C' R : rv_Mem} (h : Rn n gh C R) (hC : ∀ k, k ≠ 7 → k ≠ 8 → (k < 24 ∨ 40 < k) → C' k = C k) : Rn n gh C' R := by
  have q := fun k (h1 : k ≠ 7) (h2 : k ≠ 8) (h3 : k < 24 ∨ 40 < k) => hC k h1 h2 h3
  refine Rn_set h (fun k hk => hC k (by omega) (by omega) (by omega)) (fun k hk => hC k (by omega) (by omega) (by omega)) (fun _ _ => rfl) h.h64 ?_ ?_ ?_ ?_ ?_
  · rw [q 22 (by omega) (by omega) (by omega), q 51 (by omega) (by omega) (by omega)]; exact h.tip
  · rw [q 41 (by omega) (by omega) (by omega), q 42 (by omega) (by omega) (by omega)]; exact h.vot
  · have := h.ols
    unfold A_ols at this ⊢
    rw [q 48 (by omega) (by omega) (by omega), q 49 (by omega) (by omega) (by omega), q 50 (by omega) (by omega) (by omega), q 5 (by omega) (by omega) (by omega)]; exact this
  · have := h.rul
    unfold A_rul at this ⊢
    rw [q 4 (by omega) (by omega) (by omega), q 43 (by omega) (by omega) (by omega), q 44 (by omega) (by omega) (by omega), q 45 (by omega) (by omega) (by omega), q 46 (by omega) (by omega) (by omega), q 47 (by omega) (by omega) (by omega)]; exact this
  · have := h.mis
    unfold A_mis at this ⊢
    rw [q 12 (by omega) (by omega) (by omega), q 13 (by omega) (by omega) (by omega), q 0 (by omega) (by omega) (by omega)]; exact this
theorem mts_self : ∀ (A : List Int32) (n : Nat), hks (mts A A n) n n n (n + A.length) = [] := by
  intro A
  induction A with
  | nil => intro n; rw [mts_nil]; show (if n < n ∨ n < n + 0 then _ else _) = _; rw [if_neg (by omega)]
  | cons x A ih =>
    intro n
    rw [mts_cons, if_pos rfl]
    show (if n < n ∨ n < n then _ else _) ++ hks (mts A A (n + 1)) (n + 1) (n + 1) (n + 1) (n + (x :: A).length) = _
    rw [if_neg (by omega), List.nil_append, show n + (x :: A).length = n + 1 + A.length by simp; omega]
    exact ih (n + 1)
theorem hk_self (A : List Int32) : hk A A = [] := by
  have := mts_self A 0
  rw [Nat.zero_add] at this
  exact this
/-- whether the i-th hunk was brought -/
def brk (A B A' B' : List Int32) (i : Nat) : Bool := !ar (fun j => !alk A B ((hk A B).getD i hz0) A' B' ((hk A' B').getD j hz0)) 0 (hk A' B').length
/-- those that are left -/
def LI (p : Nat → Bool) (k : Nat) : List Nat := (List.range k).filter (fun i => !p i)
theorem LI_s (p : Nat → Bool) (k : Nat) : LI p (k + 1) = if p k = true then LI p k else LI p k ++ [k] := by
  unfold LI
  rw [List.range_succ, List.filter_append]
  cases h : p k with
  | true => simp [h]
  | false => simp [h]
theorem LI_len (p : Nat → Bool) : ∀ k, (LI p k).length ≤ k := by
  intro k
  unfold LI
  have := List.length_filter_le (fun i => !p i) (List.range k)
  simpa using this
theorem LI_lt {p : Nat → Bool} {k j i : Nat} (h : (LI p k)[j]? = some i) : i < k := by
  have := List.mem_of_getElem? h
  unfold LI at this
  simpa using (List.mem_filter.mp this).1
theorem s3_hasAlike {gh : rC_gh} {M : rv_Mem} {A B A' B' : List Int32} (hA : A.length ≤ 10) (hB : B.length ≤ 10) (hA' : A'.length ≤ 10) (hB' : B'.length ≤ 10) (hc : cmpd M 7 A B) (hc' : cmpd M 8 A' B') {i : Nat} (hi : i < (hk A B).length) : f3_hasAlike gh M 8 7 (nI i) = some (brk A B A' B' i) := by
  have o7 : rC_is gh 4 7 = true := rfl
  have o8 : rC_is gh 4 8 = true := rfl
  have n8 : M 8 10 = nI (hk A' B').length := hc'.2.2.2.2.2.1
  have l8 := hk_len A' B'
  refine rv_ux (z := (fun _ _ _ _ => none)) (F := f3_hasAlike_2_s gh M) (fun t k (_ : Unit) => t 8 7 (nI i) (nI k)) (hk A' B').length (fun k _ => ar (fun j => !alk A B ((hk A B).getD i hz0) A' B' ((hk A' B').getD j hz0)) 0 k = true) (fun r => r = some (brk A B A' B' i)) ?_ ?_ rv_FU 0 () (Nat.zero_le _) (FU_lt (by omega)) rfl
  · intro t k _ hk' hI
    have e : f3_hasAlike_2_s gh M t 8 7 (nI i) (nI k) = if alk A B ((hk A B).getD i hz0) A' B' ((hk A' B').getD k hz0) = true then some true else t 8 7 (nI i) (nI (k + 1)) := by
      unfold f3_hasAlike_2_s
      rw [if_pos o8, n8, if_pos (by rw [q_lt (by omega) (by omega)]; exact hk'), s3_isAlike o8 o7 hA' hB' hA hB hc' hc (H_get hk') (H_get hi), o1_some, alk_symm, q_succ]
    show f3_hasAlike_2_s gh M t 8 7 (nI i) (nI k) = _ ∨ ∃ a' : Unit, _ ∧ f3_hasAlike_2_s gh M t 8 7 (nI i) (nI k) = _
    rw [e]
    cases c : alk A B ((hk A B).getD i hz0) A' B' ((hk A' B').getD k hz0) with
    | true =>
      left
      rw [if_pos rfl]
      have : ar (fun j => !alk A B ((hk A B).getD i hz0) A' B' ((hk A' B').getD j hz0)) 0 (k + 1) = false := by rw [ar_snoc, Nat.zero_add, c, hI]; rfl
      unfold brk
      rw [ar_false this hk']
      rfl
    | false =>
      right
      refine ⟨(), ?_, by rw [if_neg (by simp)]⟩
      rw [ar_snoc, Nat.zero_add, c, hI]
      rfl
  · intro t _ hI
    show f3_hasAlike_2_s gh M t 8 7 (nI i) (nI (hk A' B').length) = _
    unfold f3_hasAlike_2_s
    rw [if_pos o8, n8, if_neg (by rw [q_lt (by omega) (by omega)]; omega)]
    unfold brk
    rw [hI]
    rfl
theorem s2_findLeft {gh : rC_gh} {C : rv_Mem} {c1 c2 b1 b2 f : Nat} {A B A' B' : List Int32} (w : Bool) (h1 : c1 < 82) (h2 : c2 < 82) (h3 : b1 < 82) (h4 : b2 < 82) (hf : f < 4) (e1 : C 17 c1 = nI b1) (e2 : C 17 c2 = nI b2) (hA : fileC C c1 f A) (hB : fileC C c2 f B) (hA' : fileC C b1 f A') (hB' : fileC C b2 f B') :
    ∃ C', f2_findLeft gh C (nI c1) (nI c2) (nI f) w = some (nI (LI (brk (A.map (wd w)) (B.map (wd w)) (A'.map (wd w)) (B'.map (wd w))) (hk (A.map (wd w)) (B.map (wd w))).length).length, C') ∧ (∀ k, k ≠ 7 → k ≠ 8 → (k < 24 ∨ 40 < k) → C' k = C k) ∧ cmpd C' 7 (A.map (wd w)) (B.map (wd w)) ∧ ∀ j i, (LI (brk (A.map (wd w)) (B.map (wd w)) (A'.map (wd w)) (B'.map (wd w))) (hk (A.map (wd w)) (B.map (wd w))).length)[j]? = some i → C' 24 j = nI i := by
  obtain ⟨M1, p1, p2, p3⟩ := s3_compare (gh := gh) (o := 7) w (Or.inl rfl) h1 h2 hf hA hB
  have y15 : M1 15 = C 15 := p2 15 (by omega) (fun j hj => by omega)
  have y14 : M1 14 = C 14 := p2 14 (by omega) (fun j hj => by omega)
  have y17 : M1 17 = C 17 := p2 17 (by omega) (fun j hj => by omega)
  obtain ⟨M2, q1, q2, q3⟩ := s3_compare (gh := gh) (o := 8) w (Or.inr rfl) h3 h4 hf (fileC_of y15 y14 hA') (fileC_of y15 y14 hB')
  have p4 : cmpd M2 7 (A.map (wd w)) (B.map (wd w)) := by
    have k7 : M2 7 = M1 7 := q2 7 (by omega) (fun j hj => by omega)
    have k25 : M2 (7 + 18) = M1 (7 + 18) := q2 _ (by omega) (fun j hj => by omega)
    have k27 : M2 (7 + 20) = M1 (7 + 20) := q2 _ (by omega) (fun j hj => by omega)
    have k31 : M2 (7 + 24) = M1 (7 + 24) := q2 _ (by omega) (fun j hj => by omega)
    have k33 : M2 (7 + 26) = M1 (7 + 26) := q2 _ (by omega) (fun j hj => by omega)
    have k35 : M2 (7 + 28) = M1 (7 + 28) := q2 _ (by omega) (fun j hj => by omega)
    have k37 : M2 (7 + 30) = M1 (7 + 30) := q2 _ (by omega) (fun j hj => by omega)
    have k39 : M2 (7 + 32) = M1 (7 + 32) := q2 _ (by omega) (fun j hj => by omega)
    unfold cmpd hokC at p3 ⊢
    rw [k7, k25, k27, k31, k33, k35, k37, k39]
    exact p3
  have lA := hA.1
  have lB := hB.1
  have lA' := hA'.1
  have lB' := hB'.1
  have l7 := hk_len (A.map (wd w)) (B.map (wd w))
  rw [List.length_map] at l7
  have fin : ∀ C', (∀ k, k ≠ 24 → C' k = M2 k) → (∀ k, k ≠ 7 → k ≠ 8 → (k < 24 ∨ 40 < k) → C' k = C k) ∧ cmpd C' 7 (A.map (wd w)) (B.map (wd w)) ∧ cmpd C' 8 (A'.map (wd w)) (B'.map (wd w)) := fun C' hC => by
    refine ⟨fun k k1 k2 k3 => by rw [hC k (by omega), q2 k k2 (fun j hj => by omega), p2 k k1 (fun j hj => by omega)], ?_, ?_⟩
    · unfold cmpd hokC at p4 ⊢
      rw [hC 7 (by omega), hC (7 + 18) (by omega), hC (7 + 20) (by omega), hC (7 + 24) (by omega), hC (7 + 26) (by omega), hC (7 + 28) (by omega), hC (7 + 30) (by omega), hC (7 + 32) (by omega)]
      exact p4
    · unfold cmpd hokC at q3 ⊢
      rw [hC 8 (by omega), hC (8 + 18) (by omega), hC (8 + 20) (by omega), hC (8 + 24) (by omega), hC (8 + 26) (by omega), hC (8 + 28) (by omega), hC (8 + 30) (by omega), hC (8 + 32) (by omega)]
      exact q3
  generalize hP : brk (A.map (wd w)) (B.map (wd w)) (A'.map (wd w)) (B'.map (wd w)) = P
  have L := rv_ux (z := (fun _ _ _ => none)) (F := f2_findLeft_52_s gh) (fun t k M => t M (nI (LI P k).length) (nI k)) (hk (A.map (wd w)) (B.map (wd w))).length (fun k M => (∀ q, q ≠ 24 → M q = M2 q) ∧ ∀ j i, (LI P k)[j]? = some i → M 24 j = nI i) (fun r => ∃ C', r = some (nI (LI P (hk (A.map (wd w)) (B.map (wd w))).length).length, C') ∧ (∀ q, q ≠ 24 → C' q = M2 q) ∧ ∀ j i, (LI P (hk (A.map (wd w)) (B.map (wd w))).length)[j]? = some i → C' 24 j = nI i) ?_ ?_ rv_FU 0 M2 (Nat.zero_le _) (FU_lt (by omega)) ⟨fun _ _ => rfl, fun j i h => by simp [LI] at h⟩
  · obtain ⟨C', r1, r2, r3⟩ := L
    refine ⟨C', ?_, (fin C' r2).1, (fin C' r2).2.1, r3⟩
    unfold f2_findLeft f9_baseOf
    rw [p1, o1_some, s9_read (L := 82) h1 rfl rfl (by omega), o1_some, o1_some, s9_read (L := 82) h2 rfl rfl (by omega), o1_some, o1_some, y17, e1, e2, q1, o1_some]
    exact r1
  · intro t k M hk' ⟨i1, i2⟩
    obtain ⟨-, c7, c8⟩ := fin M i1
    have n7 : M 7 10 = nI (hk (A.map (wd w)) (B.map (wd w))).length := c7.2.2.2.2.2.1
    have hh := s3_hasAlike (gh := gh) (by simpa using lA) (by simpa using lB) (by simpa using lA') (by simpa using lB') c7 c8 hk'
    rw [hP] at hh
    have ll := LI_len P k
    right
    have e : f2_findLeft_52_s gh t M (nI (LI P k).length) (nI k) = if P k = false then t (rv_u M 24 (LI P k).length (nI k)) (nI ((LI P k).length + 1)) (nI (k + 1)) else t M (nI (LI P k).length) (nI (k + 1)) := by
      unfold f2_findLeft_52_s f2_findLeft_92
      simp (disch := omega) only [n7, q_lt, if_pos hk', hh, o1_some, q_in, if_pos, q_nc, lt_do, q_succ]
    cases hpk : P k with
    | true =>
      refine ⟨M, ⟨i1, fun j i hji => i2 j i (by rw [LI_s, if_pos hpk] at hji; exact hji)⟩, ?_⟩
      show f2_findLeft_52_s gh t M (nI (LI P k).length) (nI k) = _
      rw [e, hpk, if_neg (by simp), LI_s, if_pos hpk]
    | false =>
      refine ⟨rv_u M 24 (LI P k).length (nI k), ⟨fun q hq => by rw [mu_ne hq]; exact i1 q hq, fun j i hji => ?_⟩, ?_⟩
      · rw [LI_s, if_neg (by rw [hpk]; simp)] at hji
        rcases app_at hji with ⟨x1, x2⟩ | ⟨x1, x2⟩
        · rw [mu_ne2 (by omega)]; exact i2 j i x2
        · rw [x1, mu_same, x2]
      · show f2_findLeft_52_s gh t M (nI (LI P k).length) (nI k) = _
        rw [e, hpk, if_pos rfl, LI_s, if_neg (by rw [hpk]; simp), List.length_append]
        rfl
  · intro t M ⟨i1, i2⟩
    obtain ⟨-, c7, c8⟩ := fin M i1
    have n7 : M 7 10 = nI (hk (A.map (wd w)) (B.map (wd w))).length := c7.2.2.2.2.2.1
    refine ⟨M, ?_, i1, i2⟩
    show f2_findLeft_52_s gh t M (nI (LI P _).length) (nI (hk (A.map (wd w)) (B.map (wd w))).length) = _
    unfold f2_findLeft_52_s
    rw [n7, if_neg (by rw [q_lt (by omega) (by omega)]; omega)]
theorem s2_tellLeft {gh : rC_gh} {C : rv_Mem} {A B : List Int32} {j i : Nat} (hA : A.length ≤ 10) (hj : j < 11) (hc : cmpd C 7 A B) (hi : i < (hk A B).length) (h24 : C 24 j = nI i) : f2_tellLeft gh C (nI j) = some (1000000 * nI ((hk A B).getD i hz0).1 + 10000 * nI ((hk A B).getD i hz0).2.1 + 100 * nI ((hk A B).getD i hz0).2.2.1 + nI ((hk A B).getD i hz0).2.2.2) := by
  have l7 := hk_len A B
  obtain ⟨⟨r1, r2, r3, r4⟩, -, -⟩ := cmpd_row hc (H_get hi)
  have n7 : C 7 10 = nI (hk A B).length := hc.2.2.2.2.2.1
  unfold f2_tellLeft
  rw [s9_read (L := 11) hj rfl rfl (by omega), o1_some, h24, n7]
  simp (disch := omega) only [q_0, q_le, if_pos, q_in, q_nc]
  rw [if_neg (by omega)]
  rw [r1, r2, r3, r4]

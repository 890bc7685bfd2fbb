/-! MERGING: hunks in lockstep, conflicts -/
def hls (a b : Nat) : List (Nat × Nat × Nat × Nat) → Nat → Nat → Prop
  | [], lp, lq => a + lq = b + lp
  | (p, d, q, e) :: hs, lp, lq => p + lq = q + lp ∧ hls a b hs (p + d) (q + e)
theorem hks_ls : ∀ (ms : List (Option Nat)) (e a w n lp lq : Nat), mok ms w n → a ≤ e → a + lq = w + lp → hls (e + ms.length) n (hks ms e a w n) lp lq := by
  intro ms
  induction ms with
  | nil =>
    intro e a w n lp lq h1 h2 h3
    have h1 : w ≤ n := h1
    show hls _ _ (if a < e ∨ w < n then [(a, e - a, w, n - w)] else []) lp lq
    by_cases c : a < e ∨ w < n
    · rw [if_pos c]
      refine ⟨h3, ?_⟩
      show e + [].length + (w + (n - w)) = n + (a + (e - a))
      simp; omega
    · rw [if_neg c]
      show e + [].length + lq = n + lp
      simp; omega
  | cons x ms ih =>
    intro e a w n lp lq h1 h2 h3
    have el : e + (x :: ms).length = e + 1 + ms.length := by simp; omega
    rw [el]
    cases x with
    | none => exact ih (e + 1) a w n lp lq h1 (by omega) h3
    | some q =>
      obtain ⟨g1, g2, g3⟩ := h1
      show hls _ _ ((if a < e ∨ w < q then [(a, e - a, w, q - w)] else []) ++ hks ms (e + 1) (e + 1) (q + 1) n) lp lq
      by_cases c : a < e ∨ w < q
      · rw [if_pos c]
        refine ⟨h3, ?_⟩
        have e1 : a + (e - a) = e := by omega
        have e2 : w + (q - w) = q := by omega
        rw [e1, e2]
        exact ih (e + 1) (e + 1) (q + 1) n e q g3 (Nat.le_refl _) (by omega)
      · rw [if_neg c]
        exact ih (e + 1) (e + 1) (q + 1) n lp lq g3 (Nat.le_refl _) (by omega)
theorem hk_ls (A B : List Int32) : hls A.length B.length (hk A B) 0 0 := by
  have h := mok_mts _ A B 0 (Nat.le_refl _)
  rw [Nat.zero_add] at h
  have h9 := hks_ls (mts A B 0) 0 0 0 B.length 0 0 h.1 (Nat.le_refl _) rfl
  rw [Nat.zero_add, h.2] at h9
  exact h9
/-- the hunk i of a list, by place -/
def gH (H : List (Nat × Nat × Nat × Nat)) (i : Nat) : Nat × Nat × Nat × Nat := H.getD i hz0
theorem hsd_idx {a b : Nat} : ∀ (H : List (Nat × Nat × Nat × Nat)) (lp lq : Nat), hsd a b H lp lq → (∀ i, i < H.length → lp ≤ (gH H i).1 ∧ lq ≤ (gH H i).2.2.1 ∧ (gH H i).1 + (gH H i).2.1 ≤ a ∧ (gH H i).2.2.1 + (gH H i).2.2.2 ≤ b ∧ 0 < (gH H i).2.1 + (gH H i).2.2.2) ∧ ∀ i, i + 1 < H.length → (gH H i).1 + (gH H i).2.1 + 1 ≤ (gH H (i + 1)).1 ∧ (gH H i).2.2.1 + (gH H i).2.2.2 + 1 ≤ (gH H (i + 1)).2.2.1 := by
  intro H
  induction H with
  | nil => intro lp lq _; exact ⟨fun i hi => absurd hi (Nat.not_lt_zero _), fun i hi => absurd hi (Nat.not_lt_zero _)⟩
  | cons x H ih =>
    intro lp lq h
    obtain ⟨p, d, q, e⟩ := x
    obtain ⟨g1, g2, g3, g4, g5, g6⟩ := h
    obtain ⟨i1, i2⟩ := ih _ _ g6
    refine ⟨fun i hi => ?_, fun i hi => ?_⟩
    · cases i with
      | zero => exact ⟨g1, g2, g3, g4, g5⟩
      | succ i =>
        have hi : i < H.length := by simpa using hi
        obtain ⟨k1, k2, k3⟩ := i1 i hi
        show lp ≤ (gH H i).1 ∧ lq ≤ (gH H i).2.2.1 ∧ _
        exact ⟨by omega, by omega, k3⟩
    · cases i with
      | zero =>
        have hi : 0 < H.length := by simpa using hi
        obtain ⟨k1, k2, -⟩ := i1 0 hi
        exact ⟨k1, k2⟩
      | succ i => exact i2 i (by simpa using hi)
theorem hls_idx {a b : Nat} : ∀ (H : List (Nat × Nat × Nat × Nat)) (lp lq : Nat), hls a b H lp lq → (H.length = 0 → a + lq = b + lp) ∧ (0 < H.length → (gH H 0).1 + lq = (gH H 0).2.2.1 + lp) ∧ (∀ i, i + 1 < H.length → (gH H (i + 1)).1 + ((gH H i).2.2.1 + (gH H i).2.2.2) = (gH H (i + 1)).2.2.1 + ((gH H i).1 + (gH H i).2.1)) ∧ ∀ i, i + 1 = H.length → a + ((gH H i).2.2.1 + (gH H i).2.2.2) = b + ((gH H i).1 + (gH H i).2.1) := by
  intro H
  induction H with
  | nil => intro lp lq h; exact ⟨fun _ => h, fun z => absurd z (Nat.not_lt_zero _), fun i hi => absurd hi (Nat.not_lt_zero _), fun i hi => by simp at hi⟩
  | cons x H ih =>
    intro lp lq h
    obtain ⟨p, d, q, e⟩ := x
    obtain ⟨g1, g2⟩ := h
    obtain ⟨i1, i2, i3, i4⟩ := ih _ _ g2
    refine ⟨fun z => by simp at z, fun _ => g1, fun i hi => ?_, fun i hi => ?_⟩
    · cases i with
      | zero =>
        have hi : 0 < H.length := by simpa using hi
        exact i2 hi
      | succ i => exact i3 i (by simpa using hi)
    · cases i with
      | zero =>
        have hi : H.length = 0 := by simp at hi; simp [hi]
        exact i1 hi
      | succ i => exact i4 i (by simpa using hi)
/-- two hunks in conflict -/
def cfl (O A B : List Int32) (i j : Nat) : Bool := decide ((gH (hk O A) i).1 ≤ (gH (hk O B) j).1 + (gH (hk O B) j).2.1) && decide ((gH (hk O B) j).1 ≤ (gH (hk O A) i).1 + (gH (hk O A) i).2.1) && !(decide ((gH (hk O A) i).1 = (gH (hk O B) j).1) && alk O A (gH (hk O A) i) O B (gH (hk O B) j))
def conf (O A B : List Int32) : Prop := ∃ i j, i < (hk O A).length ∧ j < (hk O B).length ∧ cfl O A B i j = true
theorem s3_conflict {gh : rC_gh} {M : rv_Mem} {O A B : List Int32} (hO : O.length ≤ 10) (hA : A.length ≤ 10) (hB : B.length ≤ 10) (hc : cmpd M 7 O A) (hc' : cmpd M 8 O B) : ∃ b, f3_isInConflict gh M 7 8 = some b ∧ (b = true ↔ conf O A B) := by
  have o7 : rC_is gh 4 7 = true := rfl
  have o8 : rC_is gh 4 8 = true := rfl
  have n7 : M 7 10 = nI (hk O A).length := hc.2.2.2.2.2.1
  have n8 : M 8 10 = nI (hk O B).length := hc'.2.2.2.2.2.1
  have l7 := hk_len O A
  have l8 := hk_len O B
  have inner : ∀ (t : Nat → Nat → Int32 → Option Bool) i, i < (hk O A).length → (f3_isInConflict_12 gh M t rv_FU 7 8 (nI i) 0 = some true ∧ ∃ j, j < (hk O B).length ∧ cfl O A B i j = true) ∨ (f3_isInConflict_12 gh M t rv_FU 7 8 (nI i) 0 = t 7 8 (nI (i + 1)) ∧ ∀ j, j < (hk O B).length → cfl O A B i j = false) := by
    intro t i hi
    refine rv_ux (z := (fun _ _ _ _ => none)) (F := f3_isInConflict_12_s gh M t) (fun T j (_ : Unit) => T 7 8 (nI i) (nI j)) (hk O B).length (fun j _ => ∀ j', j' < j → cfl O A B i j' = false) (fun r => (r = some true ∧ ∃ j, j < (hk O B).length ∧ cfl O A B i j = true) ∨ (r = t 7 8 (nI (i + 1)) ∧ ∀ j, j < (hk O B).length → cfl O A B i j = false)) ?_ ?_ rv_FU 0 () (Nat.zero_le _) (FU_lt (by omega)) (fun j hj => absurd hj (Nat.not_lt_zero _))
    · intro T j _ hj i1
      obtain ⟨r1, r2, r3, r4⟩ := (cmpd_row hc (H_get hi)).1
      obtain ⟨r1', r2', r3', r4'⟩ := (cmpd_row hc' (H_get hj)).1
      obtain ⟨b1, b2, b3⟩ := (cmpd_row hc (H_get hi)).2.1
      obtain ⟨b1', b2', b3'⟩ := (cmpd_row hc' (H_get hj)).2.1
      have al := s3_isAlike (gh := gh) o7 o8 hO hA hO hB hc hc' (H_get hi) (H_get hj)
      have step : f3_isInConflict_12_s gh M t T 7 8 (nI i) (nI j) = if cfl O A B i j = true then some true else T 7 8 (nI i) (nI (j + 1)) := by
        unfold f3_isInConflict_12_s f3_isInConflict_68 f3_isInConflict_69 f3_isInConflict_100 f3_isInConflict_101 f3_isInConflict_115 cfl gH
        have i11 : rv_in (nI i) 11 = true := q_inb (by omega) (by omega)
        have j11 : rv_in (nI j) 11 = true := q_inb (by omega) (by omega)
        simp only [o7, o8, i11, j11, if_true, n8, q_nc (show i < 2147483648 by omega), q_nc (show j < 2147483648 by omega), r1, r2, r1', r2', q_add, al, o1_some, q_succ]
        rw [if_pos (by rw [q_lt (by omega) (by omega)]; exact hj)]
        by_cases c1 : ((hk O A).getD i hz0).1 ≤ ((hk O B).getD j hz0).1 + ((hk O B).getD j hz0).2.1
        · rw [if_pos (show nI ((hk O A).getD i hz0).1 ≤ nI (((hk O B).getD j hz0).1 + ((hk O B).getD j hz0).2.1) by rw [q_le (by omega) (by omega)]; exact c1), decide_eq_true c1]
          by_cases c2 : ((hk O B).getD j hz0).1 ≤ ((hk O A).getD i hz0).1 + ((hk O A).getD i hz0).2.1
          · rw [if_pos (show nI ((hk O B).getD j hz0).1 ≤ nI (((hk O A).getD i hz0).1 + ((hk O A).getD i hz0).2.1) by rw [q_le (by omega) (by omega)]; exact c2), decide_eq_true c2]
            by_cases c3 : ((hk O A).getD i hz0).1 = ((hk O B).getD j hz0).1
            · rw [if_pos (show nI ((hk O A).getD i hz0).1 = nI ((hk O B).getD j hz0).1 by rw [c3]), decide_eq_true c3]
              cases alk O A ((hk O A).getD i hz0) O B ((hk O B).getD j hz0) <;> rfl
            · rw [if_neg (show ¬ nI ((hk O A).getD i hz0).1 = nI ((hk O B).getD j hz0).1 by rw [q_eq (by omega) (by omega)]; exact c3), decide_eq_false c3]
              rfl
          · rw [if_neg (show ¬ nI ((hk O B).getD j hz0).1 ≤ nI (((hk O A).getD i hz0).1 + ((hk O A).getD i hz0).2.1) by rw [q_le (by omega) (by omega)]; exact c2), decide_eq_false c2]
            by_cases c3 : ((hk O A).getD i hz0).1 = ((hk O B).getD j hz0).1
            · rw [if_pos (show nI ((hk O A).getD i hz0).1 = nI ((hk O B).getD j hz0).1 by rw [c3])]
              cases alk O A ((hk O A).getD i hz0) O B ((hk O B).getD j hz0) <;> rfl
            · rw [if_neg (show ¬ nI ((hk O A).getD i hz0).1 = nI ((hk O B).getD j hz0).1 by rw [q_eq (by omega) (by omega)]; exact c3)]
              rfl
        · rw [if_neg (show ¬ nI ((hk O A).getD i hz0).1 ≤ nI (((hk O B).getD j hz0).1 + ((hk O B).getD j hz0).2.1) by rw [q_le (by omega) (by omega)]; exact c1), decide_eq_false c1]
          by_cases c3 : ((hk O A).getD i hz0).1 = ((hk O B).getD j hz0).1
          · rw [if_pos (show nI ((hk O A).getD i hz0).1 = nI ((hk O B).getD j hz0).1 by rw [c3])]
            cases alk O A ((hk O A).getD i hz0) O B ((hk O B).getD j hz0) <;> rfl
          · rw [if_neg (show ¬ nI ((hk O A).getD i hz0).1 = nI ((hk O B).getD j hz0).1 by rw [q_eq (by omega) (by omega)]; exact c3)]
            rfl
      cases c : cfl O A B i j with
      | true =>
        left; left
        refine ⟨?_, j, hj, c⟩
        show f3_isInConflict_12_s gh M t T 7 8 (nI i) (nI j) = _
        rw [step, if_pos c]
      | false =>
        right
        refine ⟨(), fun j' hj' => ?_, ?_⟩
        · by_cases e : j' = j
          · rw [e]; exact c
          · exact i1 j' (by omega)
        · show f3_isInConflict_12_s gh M t T 7 8 (nI i) (nI j) = _
          rw [step, if_neg (by rw [c]; simp)]
    · intro T _ i1
      right
      refine ⟨?_, i1⟩
      show f3_isInConflict_12_s gh M t T 7 8 (nI i) (nI (hk O B).length) = _
      unfold f3_isInConflict_12_s
      rw [if_pos o8, n8, if_neg (by rw [q_lt (by omega) (by omega)]; omega), q_succ]
  refine rv_ux (z := (fun _ _ _ => none)) (F := f3_isInConflict_2_s gh M) (fun t i (_ : Unit) => t 7 8 (nI i)) (hk O A).length (fun i _ => ∀ i', i' < i → ∀ j, j < (hk O B).length → cfl O A B i' j = false) (fun r => ∃ b, r = some b ∧ (b = true ↔ conf O A B)) ?_ ?_ rv_FU 0 () (Nat.zero_le _) (FU_lt (by omega)) (fun j hj => absurd hj (Nat.not_lt_zero _))
  · intro t i _ hi i1
    show (∃ b, f3_isInConflict_2_s gh M t 7 8 (nI i) = some b ∧ _) ∨ ∃ a' : Unit, _ ∧ f3_isInConflict_2_s gh M t 7 8 (nI i) = _
    unfold f3_isInConflict_2_s
    rw [if_pos o7, n7, if_pos (by rw [q_lt (by omega) (by omega)]; exact hi)]
    rcases inner t i hi with ⟨e1, j, j1, j2⟩ | ⟨e1, e2⟩
    · left
      exact ⟨true, e1, fun _ => ⟨i, j, hi, j1, j2⟩, fun _ => rfl⟩
    · right
      refine ⟨(), fun i' hi' j hj => ?_, e1⟩
      by_cases e : i' = i
      · rw [e]; exact e2 j hj
      · exact i1 i' (by omega) j hj
  · intro t _ i1
    refine ⟨false, ?_, fun z => (by cases z), fun ⟨i, j, hi, hj, z⟩ => ?_⟩
    · show f3_isInConflict_2_s gh M t 7 8 (nI (hk O A).length) = _
      unfold f3_isInConflict_2_s
      rw [if_pos o7, n7, if_neg (by rw [q_lt (by omega) (by omega)]; omega)]
    · rw [i1 i hi j hj] at z; cases z

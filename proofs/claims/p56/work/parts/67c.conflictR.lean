/-! CONFLICTS, THE REFERENCE -/
theorem s12_conflict {M : rv_Mem} {c0 c1 c2 f : Nat} {O A B : List Int32} (h64 : rv_z (M 64 0) = false) (h0 : c0 < 82) (h1 : c1 < 82) (h2 : c2 < 82) (hf : f < 4) (hO : fileR M c0 f O) (hA : fileR M c1 f A) (hB : fileR M c2 f B) (hc : hokR M 0 c0 c1 (hk O A)) (hc' : hokR M 1 c0 c2 (hk O B)) : ∃ b, f12_isConflict M (nI f) = some b ∧ (b = true ↔ conf O A B) := by
  have n7 : M 61 0 = nI (hk O A).length := hc.1
  have n8 : M 61 1 = nI (hk O B).length := hc'.1
  have l7 := hk_len O A
  have l8 := hk_len O B
  have lO := hO.1
  have lA := hA.1
  have lB := hB.1
  have hg : wd (rv_z (M 64 0)) = wd false := by rw [h64]
  have inner : ∀ (t : Int32 → Bool → Int32 → Option Bool) b0 i, i < (hk O A).length → ∃ b, f12_isConflict_18 M t rv_FU (nI f) b0 (nI i) (nI 15) = t (nI f) b (nI (i + 1)) ∧ (b = true ↔ b0 = true ∨ ∃ j, j < (hk O B).length ∧ cfl O A B i j = true) := by
    intro t b0 i hi
    have L := rv_ui (z := (fun _ _ _ _ => none)) (F := f12_isConflict_18_s M t) (fun T j b => T (nI f) b (nI i) (nI (15 + j))) (hk O B).length (fun j b => b = true ↔ b0 = true ∨ ∃ j', j' < j ∧ cfl O A B i j' = true) (fun b => t (nI f) b (nI (i + 1))) ?_ ?_ rv_FU 0 b0 (Nat.zero_le _) (FU_lt (by omega)) ⟨Or.inl, fun z => z.elim id (fun ⟨j, hj, _⟩ => absurd hj (Nat.not_lt_zero _))⟩
    · obtain ⟨b, x1, x2⟩ := L
      exact ⟨b, x2, x1⟩
    · intro T j b hj i1
      have r : hrow M (15 * 0 + i) c0 c1 ((hk O A).getD i hz0) := hc.2 i _ _ _ _ (H_get hi)
      have r' : hrow M (15 * 1 + j) c0 c2 ((hk O B).getD j hz0) := hc'.2 j _ _ _ _ (H_get hj)
      rw [show 15 * 0 + i = i by omega] at r
      rw [show 15 * 1 + j = 15 + j by omega] at r'
      have in0 : hin O A ((hk O A).getD i hz0) := hsd_at _ _ _ (hk_sd O A) i _ _ _ _ (H_get hi)
      have in1 : hin O B ((hk O B).getD j hz0) := hsd_at _ _ _ (hk_sd O B) j _ _ _ _ (H_get hj)
      have al := s12_areAlike (M := M) (i := i) (j := 15 + j) (f := f) hg h0 h1 h0 h2 hf (by omega) (by omega) hO hA hO hB r r' in0 in1
      simp only [wd_false] at al
      obtain ⟨r1, r2, -⟩ := r
      obtain ⟨r1', r2', -⟩ := r'
      obtain ⟨b1, b2, b3⟩ := in0
      obtain ⟨b1', b2', b3'⟩ := in1
      have step : f12_isConflict_18_s M t T (nI f) b (nI i) (nI (15 + j)) = T (nI f) (b || cfl O A B i j) (nI i) (nI (15 + (j + 1))) := by
        unfold f12_isConflict_18_s f12_isConflict_83 f12_isConflict_84 f12_isConflict_122 f12_isConflict_126 f12_isConflict_127 cfl gH
        have i60 : rv_in (nI i) 60 = true := q_inb (by omega) (by omega)
        have j60 : rv_in (nI (15 + j)) 60 = true := q_inb (by omega) (by omega)
        have i4 : rv_in (1 : Int32) 4 = true := rfl
        have n1 : M 61 (1 : Int32).toNatClampNeg = nI (hk O B).length := n8
        have e15 : (15 : Int32) + nI (hk O B).length = nI (15 + (hk O B).length) := q_add 15 _
        have es : nI (15 + j) + 1 = nI (15 + (j + 1)) := q_succ _
        simp only [i4, i60, j60, if_true, n1, e15, q_nc (show i < 2147483648 by omega), q_nc (show 15 + j < 2147483648 by omega), r1, r2, r1', r2', q_add, al, o1_some, es]
        rw [if_pos (by rw [q_lt (by omega) (by omega)]; omega)]
        cases b with
        | true =>
          simp only [bt_f, if_false, Bool.true_or, ite_self]
        | false =>
          simp only [if_true, bf_t, if_false, Bool.false_or]
          by_cases c1 : ((hk O A).getD i hz0).1 ≤ ((hk O B).getD j hz0).1 + ((hk O B).getD j hz0).2.1
          · rw [if_pos (show nI ((hk O A).getD i hz0).1 ≤ nI (((hk O B).getD j hz0).1 + ((hk O B).getD j hz0).2.1) by rw [q_le (by omega) (by omega)]; exact c1), decide_eq_true c1]
            by_cases c2 : ((hk O B).getD j hz0).1 ≤ ((hk O A).getD i hz0).1 + ((hk O A).getD i hz0).2.1
            · rw [if_pos (show nI ((hk O B).getD j hz0).1 ≤ nI (((hk O A).getD i hz0).1 + ((hk O A).getD i hz0).2.1) by rw [q_le (by omega) (by omega)]; exact c2), decide_eq_true c2]
              by_cases c3 : ((hk O A).getD i hz0).1 = ((hk O B).getD j hz0).1
              · rw [if_pos (show nI ((hk O A).getD i hz0).1 = nI ((hk O B).getD j hz0).1 by rw [c3]), decide_eq_true c3]
                cases alk O A ((hk O A).getD i hz0) O B ((hk O B).getD j hz0) <;> rfl
              · rw [if_neg (show ¬ nI ((hk O A).getD i hz0).1 = nI ((hk O B).getD j hz0).1 by rw [q_eq (by omega) (by omega)]; exact c3), decide_eq_false c3]
                rfl
            · rw [if_neg (show ¬ nI ((hk O B).getD j hz0).1 ≤ nI (((hk O A).getD i hz0).1 + ((hk O A).getD i hz0).2.1) by rw [q_le (by omega) (by omega)]; exact c2), decide_eq_false c2]
              rfl
          · rw [if_neg (show ¬ nI ((hk O A).getD i hz0).1 ≤ nI (((hk O B).getD j hz0).1 + ((hk O B).getD j hz0).2.1) by rw [q_le (by omega) (by omega)]; exact c1), decide_eq_false c1]
            rfl
      refine ⟨_, ?_, step⟩
      rw [Bool.or_eq_true, i1]
      constructor
      · rintro ((z | ⟨j', z1, z2⟩) | z)
        · exact Or.inl z
        · exact Or.inr ⟨j', by omega, z2⟩
        · exact Or.inr ⟨j, by omega, z⟩
      · rintro (z | ⟨j', z1, z2⟩)
        · exact Or.inl (Or.inl z)
        · by_cases e : j' = j
          · subst e; exact Or.inr z2
          · exact Or.inl (Or.inr ⟨j', by omega, z2⟩)
    · intro T b _
      show f12_isConflict_18_s M t T (nI f) b (nI i) (nI (15 + (hk O B).length)) = _
      unfold f12_isConflict_18_s
      have n1 : M 61 (1 : Int32).toNatClampNeg = nI (hk O B).length := n8
      have e15 : (15 : Int32) + nI (hk O B).length = nI (15 + (hk O B).length) := q_add 15 _
      rw [if_pos (show rv_in (1 : Int32) 4 = true from rfl), n1, e15, if_neg (by rw [q_lt (by omega) (by omega)]; omega), q_succ]
  have L := rv_ui (z := (fun _ _ _ => none)) (F := f12_isConflict_4_s M) (fun t i b => t (nI f) b (nI i)) (hk O A).length (fun i b => b = true ↔ ∃ i' j, i' < i ∧ j < (hk O B).length ∧ cfl O A B i' j = true) some ?_ ?_ rv_FU 0 false (Nat.zero_le _) (FU_lt (by omega)) ⟨fun z => (by cases z), fun ⟨i, j, hi, _⟩ => absurd hi (Nat.not_lt_zero _)⟩
  · obtain ⟨b, x1, x2⟩ := L
    exact ⟨b, x2, x1⟩
  · intro t i b hi i1
    obtain ⟨b', e1, e2⟩ := inner t b i hi
    refine ⟨b', ?_, ?_⟩
    · rw [e2, i1]
      constructor
      · rintro (⟨i', j, z1, z2, z3⟩ | ⟨j, z2, z3⟩)
        · exact ⟨i', j, by omega, z2, z3⟩
        · exact ⟨i, j, by omega, z2, z3⟩
      · rintro ⟨i', j, z1, z2, z3⟩
        by_cases e : i' = i
        · subst e; exact Or.inr ⟨j, z2, z3⟩
        · exact Or.inl ⟨i', j, by omega, z2, z3⟩
    · show f12_isConflict_4_s M t (nI f) b (nI i) = _
      unfold f12_isConflict_4_s
      have n0 : M 61 (0 : Int32).toNatClampNeg = nI (hk O A).length := n7
      rw [if_pos (show rv_in (0 : Int32) 4 = true from rfl), n0, if_pos (by rw [q_lt (by omega) (by omega)]; exact hi)]
      exact e1
  · intro t b _
    show f12_isConflict_4_s M t (nI f) b (nI (hk O A).length) = _
    unfold f12_isConflict_4_s
    have n0 : M 61 (0 : Int32).toNatClampNeg = nI (hk O A).length := n7
    rw [if_pos (show rv_in (0 : Int32) 4 = true from rfl), n0, if_neg (by rw [q_lt (by omega) (by omega)]; omega)]

/-! THE KIND BETWEEN TWO COMMITS, THE CLASS -/
def cfr (C' C : rv_Mem) : Prop := ∀ k, k ≠ 7 → k ≠ 8 → (k < 24 ∨ 40 < k) → C' k = C k
theorem s2_changedAlike {gh : rC_gh} {C : rv_Mem} {c1 c2 b1 b2 f : Nat} {A B A' B' : List Int32} (h1 : c1 < 82) (h2 : c2 < 82) (h3 : b1 < 82) (h4 : b2 < 82) (hf : f < 4) (e1 : C 17 c1 = nI b1) (e2 : C 17 c2 = nI b2) (hA : fileC C c1 f A) (hB : fileC C c2 f B) (hA' : fileC C b1 f A') (hB' : fileC C b2 f B') :
    ∃ C', f2_isChangedAlike gh C (nI c1) (nI c2) (nI f) = some (allalk A' A B' B, C') ∧ cfr C' C := by
  obtain ⟨M1, p1, p2, p3⟩ := s3_compare (gh := gh) (o := 7) false (Or.inl rfl) h3 h1 hf hA' hA
  have y15 : M1 15 = C 15 := p2 15 (by omega) (fun j hj => by omega)
  have y14 : M1 14 = C 14 := p2 14 (by omega) (fun j hj => by omega)
  have y17 : M1 17 = C 17 := p2 17 (by omega) (fun j hj => by omega)
  obtain ⟨M2, q1, q2, q3⟩ := s3_compare (gh := gh) (o := 8) false (Or.inr rfl) h4 h2 hf (fileC_of y15 y14 hB') (fileC_of y15 y14 hB)
  have p4 : cmpd M2 7 (A'.map (wd false)) (A.map (wd false)) := by
    have k7 : M2 7 = M1 7 := q2 7 (by omega) (fun j hj => by omega)
    have k25 : M2 (7 + 18) = M1 (7 + 18) := q2 _ (by omega) (fun j hj => by omega)
    have k27 : M2 (7 + 20) = M1 (7 + 20) := q2 _ (by omega) (fun j hj => by omega)
    have k31 : M2 (7 + 24) = M1 (7 + 24) := q2 _ (by omega) (fun j hj => by omega)
    have k33 : M2 (7 + 26) = M1 (7 + 26) := q2 _ (by omega) (fun j hj => by omega)
    have k35 : M2 (7 + 28) = M1 (7 + 28) := q2 _ (by omega) (fun j hj => by omega)
    have k37 : M2 (7 + 30) = M1 (7 + 30) := q2 _ (by omega) (fun j hj => by omega)
    have k39 : M2 (7 + 32) = M1 (7 + 32) := q2 _ (by omega) (fun j hj => by omega)
    unfold cmpd hokC at p3 ⊢
    rw [k7, k25, k27, k31, k33, k35, k37, k39]
    exact p3
  rw [wd_false, wd_false] at p4 q3
  refine ⟨M2, ?_, fun k k1 k2 k3 => by rw [q2 k k2 (fun j hj => by omega), p2 k k1 (fun j hj => by omega)]⟩
  unfold f2_isChangedAlike f9_baseOf
  rw [s9_read (L := 82) h1 rfl rfl (by omega), o1_some, o1_some, e1, p1, o1_some, s9_read (L := 82) h2 rfl rfl (by omega), o1_some, o1_some, y17, e2, q1, o1_some, s3_oneByOne hA'.1 hA.1 hB'.1 hB.1 p4 q3]
  rfl
theorem s2_kind {gh : rC_gh} {C : rv_Mem} {c1 c2 b1 b2 : Nat} {A B A' B' : Nat → List Int32} (h1 : c1 < 82) (h2 : c2 < 82) (h3 : b1 < 82) (h4 : b2 < 82) (e1 : C 17 c1 = nI b1) (e2 : C 17 c2 = nI b2) (hA : ∀ f, f < 4 → fileC C c1 f (A f)) (hB : ∀ f, f < 4 → fileC C c2 f (B f)) (hA' : ∀ f, f < 4 → fileC C b1 f (A' f)) (hB' : ∀ f, f < 4 → fileC C b2 f (B' f)) :
    ∃ C', f2_kindBetween gh C (nI c1) (nI c2) = some (if b1 = b2 then (if (List.range 4).all (fun f => decide (A f = B f)) = true then 2 else 0) else (if (List.range 4).all (fun f => allalk (A' f) (A f) (B' f) (B f)) = true then 1 else 0), C') ∧ cfr C' C := by
  let x : Nat → Bool := fun f => if b1 = b2 then decide (A f = B f) else allalk (A' f) (A f) (B' f) (B f)
  let V : Int32 := if (List.range 4).all x = true then (if b1 = b2 then 2 else 1) else 0
  have hV : (if b1 = b2 then (if (List.range 4).all (fun f => decide (A f = B f)) = true then (2 : Int32) else 0) else (if (List.range 4).all (fun f => allalk (A' f) (A f) (B' f) (B f)) = true then 1 else 0)) = V := by
    show _ = if (List.range 4).all (fun f => if b1 = b2 then decide (A f = B f) else allalk (A' f) (A f) (B' f) (B f)) = true then (if b1 = b2 then (2 : Int32) else 1) else 0
    by_cases e : b1 = b2
    · simp only [if_pos e]
    · simp only [if_neg e]
  rw [hV]
  have start : f2_kindBetween gh C (nI c1) (nI c2) = f2_kindBetween_28 gh rv_FU C (nI c1) (nI c2) (decide (b1 = b2)) 0 := by
    unfold f2_kindBetween f2_kindBetween_24 f9_baseOf
    rw [s9_read (L := 82) h1 rfl rfl (by omega), o1_some, o1_some, s9_read (L := 82) h2 rfl rfl (by omega), o1_some, o1_some, e1, e2]
    by_cases e : b1 = b2
    · rw [if_pos (show nI b1 = nI b2 by rw [e]), decide_eq_true e]
    · rw [if_neg (show ¬ nI b1 = nI b2 by rw [q_eq (by omega) (by omega)]; exact e), decide_eq_false e]
  rw [start]
  refine rv_ux (z := (fun _ _ _ _ _ => none)) (F := f2_kindBetween_28_s gh) (fun t k M => t M (nI c1) (nI c2) (decide (b1 = b2)) (nI k)) 4 (fun k M => cfr M C ∧ ∀ j, j < k → x j = true) (fun r => ∃ C', r = some (V, C') ∧ cfr C' C) ?_ ?_ rv_FU 0 C (Nat.zero_le _) (FU_lt (by omega)) ⟨fun _ _ _ _ => rfl, fun j hj => absurd hj (Nat.not_lt_zero _)⟩
  · rintro t k M hk ⟨i1, i2⟩
    have y15 : M 15 = C 15 := i1 15 (by omega) (by omega) (by omega)
    have y14 : M 14 = C 14 := i1 14 (by omega) (by omega) (by omega)
    have y17 : M 17 = C 17 := i1 17 (by omega) (by omega) (by omega)
    have step : ∃ M', f2_kindBetween_28_s gh t M (nI c1) (nI c2) (decide (b1 = b2)) (nI k) = (if x k = false then some (0, M') else t M' (nI c1) (nI c2) (decide (b1 = b2)) (nI (k + 1))) ∧ cfr M' C := by
      unfold f2_kindBetween_28_s f2_kindBetween_60
      rw [q_4, if_pos (by rw [q_lt (by omega) (by omega)]; exact hk)]
      by_cases e : b1 = b2
      · refine ⟨M, ?_, i1⟩
        have hx : x k = decide (A k = B k) := if_pos e
        rw [if_pos (decide_eq_true e), s9_isSameFile h1 h2 hk (fileC_of y15 y14 (hA k hk)) (fileC_of y15 y14 (hB k hk)), o1_some, hx, q_succ]
      · obtain ⟨M', m1, m2⟩ := s2_changedAlike (gh := gh) (C := M) h1 h2 h3 h4 hk (by rw [y17]; exact e1) (by rw [y17]; exact e2) (fileC_of y15 y14 (hA k hk)) (fileC_of y15 y14 (hB k hk)) (fileC_of y15 y14 (hA' k hk)) (fileC_of y15 y14 (hB' k hk))
        have hx : x k = allalk (A' k) (A k) (B' k) (B k) := if_neg e
        refine ⟨M', ?_, fun q q1 q2 q3 => by rw [m2 q q1 q2 q3, i1 q q1 q2 q3]⟩
        rw [decide_eq_false e, if_neg (by simp), m1, o2_some, hx, q_succ]
    obtain ⟨M', m1, m2⟩ := step
    show (∃ C', f2_kindBetween_28_s gh t M (nI c1) (nI c2) (decide (b1 = b2)) (nI k) = some (V, C') ∧ cfr C' C) ∨ ∃ a', _ ∧ f2_kindBetween_28_s gh t M (nI c1) (nI c2) (decide (b1 = b2)) (nI k) = _
    rw [m1]
    cases hx : x k with
    | false =>
      left
      rw [if_pos rfl]
      refine ⟨M', ?_, m2⟩
      have : V = 0 := by
        show (if (List.range 4).all x = true then (if b1 = b2 then (2 : Int32) else 1) else 0) = 0
        rw [if_neg]
        intro z
        have := List.all_eq_true.mp z k (List.mem_range.mpr hk)
        rw [hx] at this; cases this
      rw [this]
    | true =>
      right
      rw [if_neg (by simp)]
      refine ⟨M', ⟨m2, fun j hj => ?_⟩, rfl⟩
      by_cases e : j = k
      · rw [e]; exact hx
      · exact i2 j (by omega)
  · rintro t M ⟨i1, i2⟩
    refine ⟨M, ?_, i1⟩
    have : V = (if b1 = b2 then (2 : Int32) else 1) := by
      show (if (List.range 4).all x = true then (if b1 = b2 then (2 : Int32) else 1) else 0) = _
      rw [if_pos]
      exact List.all_eq_true.mpr (fun j hj => i2 j (List.mem_range.mp hj))
    rw [this]
    show f2_kindBetween_28_s gh t M (nI c1) (nI c2) (decide (b1 = b2)) (nI 4) = _
    unfold f2_kindBetween_28_s
    rw [if_neg (by decide)]
    by_cases e : b1 = b2
    · rw [if_pos e, if_pos (decide_eq_true e)]
    · rw [if_neg e, decide_eq_false e, if_neg (by simp)]
/-- the kind of a set more -/
theorem kindS_new {n : Nat} {R : rv_Mem} {c b x y h s : Nat} (h5 : R 5 c = nI h) (h6 : R 6 c = nI (s + 1)) (hs : s < 80) (hm : mAt n (R 5) (R 6) (nI h) (nI s) = nI b) (hb : b < 82) (hx : R 2 c = nI x) (hy : R 2 b = nI y) (hx2 : x < 82) (hy2 : y < 82) :
    kindS n R c = if y = x then (if (List.range 4).all (fun f => decide (fl R b f = fl R c f)) = true then 2 else 0) else (if (List.range 4).all (fun f => allalk (fl R y f) (fl R b f) (fl R x f) (fl R c f)) = true then 1 else 0) := by
  unfold kindS
  have e1 : nI (s + 1) - 1 = nI s := by rw [q_1, q_sub (by omega), Nat.add_sub_cancel]
  rw [h6, if_neg (by rw [q_0, q_eq (by omega) (by omega)]; omega), e1, h5, hm, q_nc (by omega)]
  dsimp only
  rw [hx, hy, q_nc (show x < 2147483648 by omega), q_nc (show y < 2147483648 by omega)]
  have g1 : (fun f => decide (fl R c f = fl R b f)) = (fun f => decide (fl R b f = fl R c f)) := by
    funext f
    exact decide_eq_decide.mpr ⟨Eq.symm, Eq.symm⟩
  have g2 : (fun f => allalk (fl R x f) (fl R c f) (fl R y f) (fl R b f)) = (fun f => allalk (fl R y f) (fl R b f) (fl R x f) (fl R c f)) := by
    funext f
    rw [allalk_symm]
  rw [g1, g2]
  by_cases e : y = x
  · rw [if_pos e, if_pos (show nI x = nI y by rw [e])]
  · rw [if_neg e, if_neg (show ¬ nI x = nI y by rw [q_eq (by omega) (by omega)]; exact fun z => e z.symm)]

/-! KINDS, BOTH SIDES -/
theorem fileR_of {M M0 : rv_Mem} {c f : Nat} {A : List Int32} (h3 : M 3 = M0 3) (h4 : M 4 = M0 4) (h : fileR M0 c f A) : fileR M c f A := by
  unfold fileR
  rw [h3, h4]
  exact h
theorem fileC_of {M M0 : rv_Mem} {c f : Nat} {A : List Int32} (h3 : M 15 = M0 15) (h4 : M 14 = M0 14) (h : fileC M0 c f A) : fileC M c f A := by
  unfold fileC
  rw [h3, h4]
  exact h
def scr (M M0 : rv_Mem) : Prop := ∀ q, q < 53 ∨ 61 < q → M q = M0 q
theorem s12_areAllAlike {M0 : rv_Mem} {b1 c1 b2 c2 : Nat} {A B A' B' : Nat → List Int32} (h64 : rv_z (M0 64 0) = false) (h1 : b1 < 82) (h2 : c1 < 82) (h3 : b2 < 82) (h4 : c2 < 82) (hA : ∀ f, f < 4 → fileR M0 b1 f (A f)) (hB : ∀ f, f < 4 → fileR M0 c1 f (B f)) (hA' : ∀ f, f < 4 → fileR M0 b2 f (A' f)) (hB' : ∀ f, f < 4 → fileR M0 c2 f (B' f)) :
    ∃ M', f12_areAllAlike M0 (nI b1) (nI c1) (nI b2) (nI c2) = some ((List.range 4).all (fun f => allalk (A f) (B f) (A' f) (B' f)), M') ∧ scr M' M0 := by
  rw [← ar_range]
  refine rv_ux (z := (fun _ _ _ _ _ _ _ => none)) (F := f12_areAllAlike_6_s) (fun t k (s : rv_Mem × Bool) => t s.1 (nI b1) (nI c1) (nI b2) (nI c2) s.2 (nI k)) 4 (fun k s => scr s.1 M0 ∧ s.2 = ar (fun f => allalk (A f) (B f) (A' f) (B' f)) 0 k) (fun r => ∃ M', r = some (ar (fun f => allalk (A f) (B f) (A' f) (B' f)) 0 4, M') ∧ scr M' M0) ?_ ?_ rv_FU 0 (M0, true) (Nat.zero_le _) (FU_lt (by omega)) ⟨fun _ _ => rfl, rfl⟩
  · rintro t f ⟨M, b⟩ hf ⟨i1, i2⟩
    have i1 : scr M M0 := i1
    have i2 : b = ar (fun f => allalk (A f) (B f) (A' f) (B' f)) 0 f := i2
    cases b with
    | false =>
      have i1 : scr M M0 := i1
      left
      refine ⟨M, ?_, i1⟩
      show f12_areAllAlike_6_s t M (nI b1) (nI c1) (nI b2) (nI c2) false (nI f) = _
      unfold f12_areAllAlike_6_s
      rw [ar_false i2.symm (by omega)]
      simp only [bf_t, if_false, ite_self]
    | true =>
      have i1 : scr M M0 := i1
      right
      have g64 : rv_z (M 64 0) = false := by rw [i1 64 (by omega)]; exact h64
      have e3 : M 3 = M0 3 := i1 3 (by omega)
      have e4 : M 4 = M0 4 := i1 4 (by omega)
      obtain ⟨M1, p1, p2, p3, p4, p5⟩ := s12_laysHunks (M0 := M) (w := 0) (by omega) h1 h2 hf (fileR_of e3 e4 (hA f hf)) (fileR_of e3 e4 (hB f hf))
      rw [g64, wd_false, wd_false] at p5
      have y64 : rv_z (M1 64 0) = false := by rw [p2 64 (by omega)]; exact g64
      have y3 : M1 3 = M0 3 := (p2 3 (by omega)).trans e3
      have y4 : M1 4 = M0 4 := (p2 4 (by omega)).trans e4
      obtain ⟨M2, q1, q2, q3, q4, q5⟩ := s12_laysHunks (M0 := M1) (w := 1) (by omega) h3 h4 hf (fileR_of y3 y4 (hA' f hf)) (fileR_of y3 y4 (hB' f hf))
      rw [y64, wd_false, wd_false] at q5
      have z64 : rv_z (M2 64 0) = false := by rw [q2 64 (by omega)]; exact y64
      have z3 : M2 3 = M0 3 := (q2 3 (by omega)).trans y3
      have z4 : M2 4 = M0 4 := (q2 4 (by omega)).trans y4
      have n0 : M2 61 0 = nI (hk (A f) (B f)).length := by rw [q4 0 (by omega)]; exact p5.1
      have n1 : M2 61 1 = nI (hk (A' f) (B' f)).length := q5.1
      have l0 := hk_len (A f) (B f)
      have l1 := hk_len (A' f) (B' f)
      have la := (hA f hf).1
      have la' := (hA' f hf).1
      have r0 : ∀ k, k < (hk (A f) (B f)).length → hrow M2 k b1 c1 ((hk (A f) (B f)).getD k hz0) := fun k hk' => by
        have g := H_get hk'
        obtain ⟨a1, a2, a3, a4, a5, a6⟩ := p5.2 k _ _ _ _ g
        rw [Nat.mul_zero, Nat.zero_add] at a1 a2 a3 a4 a5 a6
        exact ⟨by rw [q3 55 (by omega) (by omega) k (by omega)]; exact a1, by rw [q3 57 (by omega) (by omega) k (by omega)]; exact a2, by rw [q3 56 (by omega) (by omega) k (by omega)]; exact a3, by rw [q3 58 (by omega) (by omega) k (by omega)]; exact a4, by rw [q3 59 (by omega) (by omega) k (by omega)]; exact a5, by rw [q3 60 (by omega) (by omega) k (by omega)]; exact a6⟩
      have r1 : ∀ k, k < (hk (A' f) (B' f)).length → hrow M2 (15 + k) b2 c2 ((hk (A' f) (B' f)).getD k hz0) := fun k hk' => q5.2 k _ _ _ _ (H_get hk')
      have in0 : ∀ k, k < (hk (A f) (B f)).length → hin (A f) (B f) ((hk (A f) (B f)).getD k hz0) := fun k hk' => hsd_at _ _ _ (hk_sd _ _) k _ _ _ _ (H_get hk')
      have in1 : ∀ k, k < (hk (A' f) (B' f)).length → hin (A' f) (B' f) ((hk (A' f) (B' f)).getD k hz0) := fun k hk' => hsd_at _ _ _ (hk_sd _ _) k _ _ _ _ (H_get hk')
      refine ⟨(M2, allalk (A f) (B f) (A' f) (B' f)), ⟨fun q hq => by show M2 q = _; rw [q2 q hq, p2 q hq, i1 q hq], ?_⟩, ?_⟩
      · show allalk (A f) (B f) (A' f) (B' f) = _
        rw [ar_snoc, ← i2, Bool.true_and, Nat.zero_add]
      · show f12_areAllAlike_6_s t M (nI b1) (nI c1) (nI b2) (nI c2) true (nI f) = t M2 (nI b1) (nI c1) (nI b2) (nI c2) (allalk (A f) (B f) (A' f) (B' f)) (nI (f + 1))
        have start : f12_areAllAlike_6_s t M (nI b1) (nI c1) (nI b2) (nI c2) true (nI f) = if (hk (A f) (B f)).length = (hk (A' f) (B' f)).length then f12_areAllAlike_56 t M2 (nI b1) (nI c1) (nI b2) (nI c2) (nI f) true else f12_areAllAlike_56 t M2 (nI b1) (nI c1) (nI b2) (nI c2) (nI f) false := by
          unfold f12_areAllAlike_6_s
          rw [if_pos (by rw [q_4, q_lt (by omega) (by omega)]; exact hf), if_pos rfl]
          show rv_o1 (f12_laysHunks M (nI 0) _ _ _) _ = _
          rw [p1, o1_some]
          show rv_o1 (f12_laysHunks M1 (nI 1) _ _ _) _ = _
          rw [q1, o1_some]
          simp (disch := omega) only [q_0, q_1, q_in, if_pos, q_nc, n0, n1, q_eq]
        rw [start]
        by_cases hl : (hk (A f) (B f)).length = (hk (A' f) (B' f)).length
        · rw [if_pos hl, allalk_ar hl]
          have L := rv_all (z := (fun _ _ _ _ _ _ _ _ => none)) (F := f12_areAllAlike_61_s t) (fun T k b => T M2 (nI b1) (nI c1) (nI b2) (nI c2) b (nI f) (nI k)) (hk (A f) (B f)).length (fun k => alk (A f) (B f) ((hk (A f) (B f)).getD k hz0) (A' f) (B' f) ((hk (A' f) (B' f)).getD k hz0)) (fun b => t M2 (nI b1) (nI c1) (nI b2) (nI c2) b (nI (f + 1))) ?_ ?_ ?_ rv_FU 0 true (Nat.zero_le _) (FU_lt (by omega))
          · rw [Bool.true_and] at L
            exact L
          · intro T k hk'
            have key := s12_areAlike (M := M2) (i := k) (j := 15 + k) (f := f) (g := wd false) (by rw [z64]) h1 h2 h3 h4 hf (by omega) (by omega) (fileR_of z3 z4 (hA f hf)) (fileR_of z3 z4 (hB f hf)) (fileR_of z3 z4 (hA' f hf)) (fileR_of z3 z4 (hB' f hf)) (r0 k hk') (r1 k (by omega)) (in0 k hk') (in1 k (by omega))
            simp only [wd_false] at key
            unfold f12_areAllAlike_61_s
            simp (disch := omega) only [q_0, q_in, if_pos, q_nc, n0, q_lt, if_pos hk', if_true, q_15, q_add, key, o1_some, q_succ]
          · intro T k hk'
            unfold f12_areAllAlike_61_s f12_areAllAlike_98
            simp (disch := omega) only [q_0, q_in, if_pos, q_nc, n0, q_lt, if_pos hk', bf_t, if_false, q_succ]
          · intro T b
            unfold f12_areAllAlike_61_s f12_areAllAlike_98
            simp (disch := omega) only [q_0, q_in, if_pos, q_nc, n0, q_lt, Nat.lt_irrefl, if_false, q_succ]
        · rw [if_neg hl, allalk_ne hl]
          show rv_fx _ (f12_areAllAlike_61_s t) rv_FU M2 (nI b1) (nI c1) (nI b2) (nI c2) false (nI f) 0 = _
          rw [fx_FU]
          generalize rv_fx _ (f12_areAllAlike_61_s t) 99999 = T
          unfold f12_areAllAlike_61_s f12_areAllAlike_98
          simp (disch := omega) only [q_0, q_in, if_pos, bf_t, if_false, ite_self, q_succ]
  · rintro t ⟨M, b⟩ ⟨i1, i2⟩
    have i2 : b = ar (fun f => allalk (A f) (B f) (A' f) (B' f)) 0 4 := i2
    refine ⟨M, ?_, i1⟩
    show f12_areAllAlike_6_s t M (nI b1) (nI c1) (nI b2) (nI c2) b (nI 4) = _
    unfold f12_areAllAlike_6_s
    rw [if_neg (by rw [q_4, q_lt (by omega) (by omega)]; omega), i2]
/-- where the one before a patch set lies -/
theorem Rn.prev {n : Nat} {gh : rC_gh} {C R : rv_Mem} (hR : Rn n gh C R) {c : Nat} (hc : c < n) (ho : R 5 c ≠ NO) : ∃ h s, h < gh.1 0 ∧ 2 ≤ c ∧ R 5 c = nI h ∧ R 6 c = nI s ∧ s < 80 ∧ (s = 0 ∨ 0 < s ∧ ∃ b, 2 ≤ b ∧ b < n ∧ R 5 b = nI h ∧ R 6 b = nI (s - 1) ∧ C 19 b = nI h ∧ C (120 + h) (s - 1) = nI b ∧ mAt n (R 5) (R 6) (nI h) (nI (s - 1)) = nI b) := by
  rcases hR.own c hc with ⟨-, h⟩ | ⟨h, s, p, a1, a2, a3, a4, a5, a6, a7, -⟩
  · exact absurd h ho
  · obtain ⟨k, k1, k2, k3, k4, k5⟩ := hR.sets a1
    rw [k4, q_nc (by omega)] at a6
    refine ⟨h, s, a1, a2, a4, a5, by omega, ?_⟩
    by_cases hs : s = 0
    · exact Or.inl hs
    · right
      obtain ⟨b, b1, b2, b3, b4, b5, b6⟩ := hR.at a1 k2 k4 (show s - 1 < k by omega)
      refine ⟨by omega, b, b1, b2, b4, b5, ?_, b3, b6⟩
      rcases hR.own b b2 with ⟨-, z⟩ | ⟨h', s', p', a1', a2', a3', a4', -⟩
      · rw [b4] at z; exact absurd z (by rw [q_no_eq (by have := hR.ch20; omega)]; exact fun y => y)
      · rw [a3', ← a4', b4]
theorem s12_kindAt {n : Nat} {gh : rC_gh} {C R M : rv_Mem} (hR : Rn n gh C R) (hk : ∀ k, k ≤ 6 → M k = R k) (h64 : rv_z (M 64 0) = false) {c : Nat} (hc : c < n) (ho : R 5 c ≠ NO) : ∃ M', f12_kindAt M (nI c) = some (kindS n R c, M') ∧ scr M' M := by
  have hn := hR.n80
  obtain ⟨h, s, a1, a2, a3, a4, a5, a6⟩ := hR.prev hc ho
  have e2 := hk 2 (by omega)
  have e5 := hk 5 (by omega)
  have e6 := hk 6 (by omega)
  have e0 : M 0 0 = nI n := by rw [hk 0 (by omega)]; exact hR.cnt.2.2.1
  unfold f12_kindAt kindS
  rw [if_pos (q_inb (show c < 82 by omega) (by omega)), q_nc (by omega), e2, e5, e6, a4]
  rcases a6 with hs | ⟨hs, b, b1, b2, b3, b4, b5, b6, b7⟩
  · subst hs
    rw [if_pos (show nI 0 = 0 from rfl), if_pos (show nI 0 = 0 from rfl)]
    exact ⟨M, rfl, fun _ _ => rfl⟩
  · have hs0 : ¬ nI s = 0 := by rw [q_0, q_eq (by omega) (by omega)]; omega
    have es : nI s - 1 = nI (s - 1) := q_sub (show 1 ≤ s by omega)
    obtain ⟨x, hx0, y1, y2, -⟩ := hR.base a2 hc
    obtain ⟨x', hx0', y1', y2', -⟩ := hR.base b1 b2
    have hx : x < n := by omega
    have hx' : x' < n := by omega
    have fr : ∀ c', c' < n → ∀ f, f < 4 → fileR M c' f (fl R c' f) := fun c' hc' f hf => fileR_of (hk 3 (by omega)) (hk 4 (by omega)) (fil_files hR.fil (Or.inl hc') hf).2.1
    rw [if_neg hs0, if_neg hs0, a3, es, s12_commitAt e0 hn, e5, e6, b7, o1_some]
    simp (disch := omega) only [q_in, if_pos, q_nc, y2, y2', q_eq]
    by_cases e : x = x'
    · rw [if_pos e, if_pos e]
      unfold f12_kindAt_50
      rw [if_pos rfl, s12_areSameFiles (by omega) (by omega) (fr c hc) (fr b b2), o1_some]
      refine ⟨M, ?_, fun _ _ => rfl⟩
      cases (List.range 4).all (fun f => decide (fl R c f = fl R b f)) <;> rfl
    · rw [if_neg e, if_neg e]
      unfold f12_kindAt_50
      obtain ⟨M', m1, m2⟩ := s12_areAllAlike (M0 := M) (b1 := x) (c1 := c) (b2 := x') (c2 := b) h64 (by omega) (by omega) (by omega) (by omega) (fr x hx) (fr c hc) (fr x' hx') (fr b b2)
      refine ⟨M', ?_, m2⟩
      simp (disch := omega) only [bf_t, if_false, q_in, if_pos, q_nc, e2, y2, y2', m1, o2_some]
      cases (List.range 4).all (fun f => allalk (fl R x f) (fl R c f) (fl R x' f) (fl R b f)) <;> rfl
theorem scr_le {M M0 : rv_Mem} (h : scr M M0) : ∀ k, k ≤ 52 → M k = M0 k := fun k hk => h k (by omega)
theorem h_kindOf : ∀ gh MC MR, Rel gh MC MR → ∀ p1 p2, rS_kindOf Rel gh MC MR p1 p2 := fun gh C R h p1 p2 => by
  obtain ⟨n, hR⟩ := h
  have hc := hR.ch20
  have hn := hR.n80
  unfold rS_kindOf f11_kindOf f12_kindOf f12_kindOf_15 f12_goes
  rcases hR.dchange p1 with ⟨m, h1, rfl, e1, e2⟩ | ⟨e1, e2⟩
  · rw [e1]
    rcases hR.dset h1 p2 with ⟨s, c, rfl, a1, a2, a3, a4, a5, a6, a7, g1, g2, g3, g4⟩ | ⟨g2, g3⟩
    · left
      have ho : R 5 c ≠ NO := by rw [a6, ne_eq, q_no_eq (by omega)]; exact fun z => z
      have hk := hR.kin c a4 ho
      have hc9 : f9_kindAt gh C (nI c) = some (kindS n R c) := by
        unfold f9_kindAt
        rw [s9_read (L := 82) (by omega) (by decide) rfl (by omega), o1_some, hk]
      obtain ⟨M', m1, m2⟩ := s12_kindAt (M := rv_u R 66 0 (nI 0)) hR (fun k hk => mu_ne (by omega)) (by rw [mu_ne (by omega)]; exact hR.h64) a4 ho
      rw [g3]
      simp (disch := omega) only [q_no, q_no2, q_0, q_1, q_2, q_3, q_4, q_5, q_6, q_7, q_8, q_10, q_11, q_12, q_15, q_16, q_17, q_20, q_30, q_31, q_32, q_40, q_45, q_60, q_80, q_81, q_82, q_100, q_320, q_328, q_399, q_400, q_3280, q_nc, q_eq, q_lt, q_le, q_add, q_mul, q_in, q_inno, q_no_eq, q_no_eq', q_no_lt, q_lt_no, q_no_le, q_le_no, o1_some, o2_some, lt_do, x1_inl, x1_inr, x2_inl, x2_inr, if_true, if_false, if_pos, if_neg, rvi_t, rvi_f, bt_f, bf_t, bb_t, bb_f, not_true_eq_false, not_false_eq_true, g2, hc9]
      rw [s12_commitAt (n := n) (by rw [mu_ne (by omega)]; exact hR.1.2.2.1) hR.n80, mu_ne (by omega), mu_ne (by omega), g1]
      simp (disch := omega) only [q_no, q_no2, q_0, q_1, q_2, q_3, q_4, q_5, q_6, q_7, q_8, q_10, q_11, q_12, q_15, q_16, q_17, q_20, q_30, q_31, q_32, q_40, q_45, q_60, q_80, q_81, q_82, q_100, q_320, q_328, q_399, q_400, q_3280, q_nc, q_eq, q_lt, q_le, q_add, q_mul, q_in, q_inno, q_no_eq, q_no_eq', q_no_lt, q_lt_no, q_no_le, q_le_no, o1_some, o2_some, lt_do, x1_inl, x1_inr, x2_inl, x2_inr, if_true, if_false, if_pos, if_neg, rvi_t, rvi_f, bt_f, bf_t, bb_t, bb_f, not_true_eq_false, not_false_eq_true, m1]
      have hs := Rn_scr (R' := M') (fun k hk => by rw [m2 k (by omega), mu_ne (by omega)]) (by rw [m2 64 (by omega), mu_ne (by omega)]; exact hR.h64) hR
      exact ⟨kindS n R c, M', rfl, rfl, by rw [m2 66 (by omega)]; exact mu_same _ _ _ _, ⟨n, hs⟩⟩
    · right
      rw [g3]
      simp (disch := omega) only [q_no, q_no2, q_0, q_1, q_2, q_3, q_4, q_5, q_6, q_7, q_8, q_10, q_11, q_12, q_15, q_16, q_17, q_20, q_30, q_31, q_32, q_40, q_45, q_60, q_80, q_81, q_82, q_100, q_320, q_328, q_399, q_400, q_3280, q_nc, q_eq, q_lt, q_le, q_add, q_mul, q_in, q_inno, q_no_eq, q_no_eq', q_no_lt, q_lt_no, q_no_le, q_le_no, o1_some, o2_some, lt_do, x1_inl, x1_inr, x2_inl, x2_inr, if_true, if_false, if_pos, if_neg, rvi_t, rvi_f, bt_f, bf_t, bb_t, bb_f, not_true_eq_false, not_false_eq_true, g2]
      exact ⟨rv_u R 66 0 (nI 1), nI 0, trivial, rfl, mu_same _ _ _ _, ⟨n, Rn_66 hR⟩⟩
  · right
    have e3 : f12_isSet R p1 p2 = some false := by unfold f12_isSet; rw [e2]; rfl
    rw [e1, e3]
    simp (disch := omega) only [q_no, q_no2, q_0, q_1, q_2, q_3, q_4, q_5, q_6, q_7, q_8, q_10, q_11, q_12, q_15, q_16, q_17, q_20, q_30, q_31, q_32, q_40, q_45, q_60, q_80, q_81, q_82, q_100, q_320, q_328, q_399, q_400, q_3280, q_nc, q_eq, q_lt, q_le, q_add, q_mul, q_in, q_inno, q_no_eq, q_no_eq', q_no_lt, q_lt_no, q_no_le, q_le_no, o1_some, o2_some, lt_do, x1_inl, x1_inr, x2_inl, x2_inr, if_true, if_false, if_pos, if_neg, rvi_t, rvi_f, bt_f, bf_t, bb_t, bb_f, not_true_eq_false, not_false_eq_true]
    exact ⟨rv_u R 66 0 (nI 1), nI 0, trivial, rfl, mu_same _ _ _ _, ⟨n, Rn_66 hR⟩⟩

/-! COMMENTS AS THEY ARE SHOWN -/
section
variable {n : Nat} {gh : rC_gh} {C R A : rv_Mem}
/-- a comment and its place, as the memory R has it -/
def cmtR (gh : rC_gh) (R : rv_Mem) (j h s0 f a k K : Nat) : Prop := j < gh.1 1 ∧ h < gh.1 0 ∧ s0 < K ∧ 1 ≤ K ∧ K ≤ 80 ∧ f < 4 ∧ 1 ≤ k ∧ a + k ≤ 10 ∧ R 26 j = nI h ∧ R 27 j = nI s0 ∧ R 28 j = nI f ∧ R 29 j = nI a ∧ R 30 j = nI k ∧ R 14 h = nI K
theorem cmtR_ex (hR : Rn n gh C R) {j : Nat} (hj : j < gh.1 1) : ∃ h s0 f a k K, cmtR gh R j h s0 f a k K ∧ a + k ≤ (fl R (cAt n R h s0) f).length ∧ cAt n R h s0 < n := by
  have hn := hR.n80
  obtain ⟨-, -, -, -, o7, h, s0, f, a, k, q1, q2, q3, q4, q5, q6, q7, q8, q9, q10, q11, q12, q13, q14, q15⟩ := hR.cmt j hj
  obtain ⟨K, k1, k2, k3, k4, -⟩ := hR.sets q1
  rw [k4, q_nc (by omega)] at q2
  obtain ⟨c, c1, c2, -, -, -, c6⟩ := hR.at q1 k2 k4 q2
  have ec : cAt n R h s0 = c := by unfold cAt; rw [c6, q_nc (by omega)]
  have hak : a + k ≤ (fl R (cAt n R h s0) f).length := by rw [fl_len]; exact q15
  have := fl_10 hR (Or.inl c2) q3
  rw [ec] at hak
  exact ⟨h, s0, f, a, k, K, ⟨hj, q1, q2, k1, k2, q3, q4, by omega, q6, q8, q10, q12, q14, k4⟩, by rw [ec]; exact hak, by rw [ec]; exact c2⟩
theorem ak_shown (hR : Rn n gh C R) {j h s0 f a k K S : Nat} (hc9 : cmtR gh R j h s0 f a k K) (hS : S < K) : ∃ C', f11_shown gh C (nI j) (nI S) = some (.inl ((if S < s0 then 0 else up (stp n R h s0 f a k) (S - s0) s0 (msk k a)), C')) ∧ Rn n gh C' R := by
  have hn := hR.n80
  have hc := hR.ch20
  have hcm := hR.cnt.2.2.2.2.2.1
  obtain ⟨hj, g1, g2, g3, g4, g5, g6, g7, g8, g9, g10, g11, g12, g13⟩ := hc9
  obtain ⟨-, -, -, -, o7, h', s', f', a', k', q1, q2, q3, q4, q5, q6, q7, q8, q9, q10, q11, q12, q13, q14, q15⟩ := hR.cmt j hj
  have y1 : h' = h := by rw [g8, q_eq (by omega) (by omega)] at q6; exact q6.symm
  subst y1
  obtain ⟨K', k1, k2, k3, k4, -⟩ := hR.sets q1
  have y2 : K' = K := by rw [g13, q_eq (by omega) (by omega)] at k4; exact k4.symm
  subst y2
  rw [k4, q_nc (by omega)] at q2
  have y3 : s' = s0 := by rw [g9, q_eq (by omega) (by omega)] at q8; exact q8.symm
  subst y3
  have y4 : f' = f := by rw [g10, q_eq (by omega) (by omega)] at q10; exact q10.symm
  subst y4
  obtain ⟨c0, -, c02, -, -, -, c06⟩ := hR.at q1 k2 k4 q2
  have b10 := fl_10 hR (Or.inl c02) q3
  have q15' : a' + k' ≤ (fl R c0 f').length := by rw [fl_len]; rw [c06, q_nc (by omega)] at q15; exact q15
  have y5 : a' = a := by rw [g11, q_eq (by omega) (by omega)] at q12; exact q12.symm
  subst y5
  have y6 : k' = k := by rw [g12, q_eq (by omega) (by omega)] at q14; exact q14.symm
  subst y6
  obtain ⟨c, d9⟩ : ∃ c, f11_needSet gh C (100 + h') (nI S) = some (.inl c) := by
    obtain ⟨c, -, -, -, -, -, -, e⟩ := ok_set hR q1 k4 k2 hS
    exact ⟨_, e⟩
  have i2 := is2 hj hcm
  have b1 : f11_needComment gh C (nI j) = some (.inl (200 + j)) := by
    unfold f11_needComment
    rw [if_pos (by rw [q_0, q_le (by omega) (by omega)]; omega), if_neg (by rw [q_le (by omega) (by omega)]; omega), if_pos (q_inb hj (by omega)), q_nc (by omega), if_pos i2]
  have eC : f11_shown gh C (nI j) (nI S) = (if nI S < nI s' then (some (.inl (0, C))) else rv_o1 (f0_commitAt gh C (100 + h') (nI s')) (fun r17 => f11_shown_70 gh rv_FU C (nI S) (gh.2 (200 + j)) (100 + h') r17 (msk k' a') (nI s' + 1))) := by
    unfold f11_shown
    rw [b1]; simp only [x2_inl]
    rw [if_pos i2, if_pos o7, q5, needChange_in C hc q1]
    simp only [x2_inl, is1 q1 hc, if_true, q7, q11, q13, d9]
    rfl
  generalize h' = h at *
  generalize s' = s0 at *
  generalize f' = f at *
  generalize a' = a at *
  generalize k' = k at *
  have cs : ∀ i, i < K' → ∃ ci, 2 ≤ ci ∧ ci < n ∧ C (120 + h) i = nI ci ∧ mAt n (R 5) (R 6) (nI h) (nI i) = nI ci ∧ cAt n R h i = ci := fun i hi => by
    obtain ⟨ci, x1, x2, x3, x4, x5, x6⟩ := hR.at q1 k2 k4 hi
    exact ⟨ci, x1, x2, x3, x6, by unfold cAt; rw [x6, q_nc (by omega)]⟩
  obtain ⟨ch, ch1, ch2, ch3, ch4, ch5⟩ := cs s0 q2
  have F := fun {x : Nat} (hx : x < n) => fil_files hR.fil (c := x) (f := f) (Or.inl hx) q3
  have hak : a + k ≤ (fl R ch f).length := by
    rw [fl_len]
    rw [ch4, q_nc (by omega)] at q15
    exact q15
  have lh := (F ch2).1.1
  have cA : ∀ (C1 : rv_Mem) i, (∀ q, q ≠ 7 → q ≠ 8 → (q < 24 ∨ 40 < q) → C1 q = C q) → i < K' → f0_commitAt gh C1 (100 + h) (nI i) = some (nI (cAt n R h i)) := fun C1 i hC1 hi => by
    obtain ⟨ci, x1, x2, x3, x4, x5⟩ := cs i hi
    unfold f0_commitAt
    have hA := isA1 q1 hc
    rw [show 100 + h + 20 = 120 + h by omega] at hA
    have hL : rC_ln (120 + h) = 80 := by unfold rC_ln; rw [if_neg (by omega)]
    rw [if_pos (is1 q1 hc), hC1 (100 + h) (by omega) (by omega) (by omega), k3, if_pos (by rw [q_lt (by omega) (by omega)]; exact hi), show 100 + h + 20 = 120 + h by omega, s9_read (L := 80) (by omega) hL hA (by omega), o1_some, hC1 (120 + h) (by omega) (by omega) (by omega), x3, x5]
  by_cases hlt : S < s0
  · refine ⟨C, ?_, hR⟩
    rw [eC, if_pos (by rw [q_lt (by omega) (by omega)]; exact hlt), if_pos hlt]
  · rw [if_neg (by rw [q_lt (by omega) (by omega)]; exact hlt), cA C s0 (fun _ _ _ _ => rfl) q2, o1_some, ch5, q_succ] at eC
    have LC := rv_ui (z := (fun _ _ _ _ _ _ _ => none)) (F := f11_shown_70_s gh) (fun t i (s : rv_Mem × Int32) => t s.1 (nI S) (gh.2 (200 + j)) (100 + h) (nI ch) s.2 (nI (i + 1))) S (fun i s => s0 ≤ i ∧ (∀ q, q ≠ 7 → q ≠ 8 → (q < 24 ∨ 40 < q) → s.1 q = C q) ∧ s.2 = up (stp n R h s0 f a k) (i - s0) s0 (msk k a)) (fun s => some (.inl (s.2, s.1))) ?_ ?_ rv_FU s0 (C, msk k a) (by omega) (FU_lt (by omega)) ⟨Nat.le_refl _, fun _ _ _ _ => rfl, by rw [Nat.sub_self]; rfl⟩
    · obtain ⟨⟨C', y⟩, ⟨-, x2, x3⟩, x4⟩ := LC
      have x3 : y = up (stp n R h s0 f a k) (S - s0) s0 (msk k a) := x3
      refine ⟨C', ?_, Rn_cmp hR x2⟩
      rw [if_neg hlt, ← x3, eC]; exact x4
    · rintro t i ⟨M, x⟩ hi ⟨i1, i2, i3⟩
      have i2 : ∀ q, q ≠ 7 → q ≠ 8 → (q < 24 ∨ 40 < q) → M q = C q := i2
      have i3 : x = up (stp n R h s0 f a k) (i - s0) s0 (msk k a) := i3
      obtain ⟨ci, x1, x2, x3, x4, x5⟩ := cs i (by omega)
      obtain ⟨cj, y1, y2, y3, y4, y5⟩ := cs (i + 1) (by omega)
      have ge := ok_pl2 o7
      have mC : ∀ q, q ≠ 7 → q ≠ 8 → (q < 24 ∨ 40 < q) → M q = C q := i2
      have fC : ∀ c, c < n → fileC M c f (fl R c f) := fun c hc => fileC_of (mC 15 (by omega) (by omega) (by omega)) (mC 14 (by omega) (by omega) (by omega)) (F hc).1
      have epl : M (gh.2 (200 + j)) = C (gh.2 (200 + j)) := mC _ (by omega) (by omega) (by omega)
      obtain ⟨C1, p1, p2⟩ := s2_follow (gh := gh) (show ci < 82 by omega) (show cj < 82 by omega) q3 (fC ci x2) (fC cj y2) x
      have est : stp n R h s0 f a k i x = if fwS (mts (fl R ci f) (fl R cj f) 0) (fl R ci f).length x = 0 then fdS (fl R ch f) (fl R cj f) a k else fwS (mts (fl R ci f) (fl R cj f) 0) (fl R ci f).length x := by
        unfold stp
        rw [x5, y5, ch5]
      have fr : ∀ q, q ≠ 7 → q ≠ 8 → (q < 24 ∨ 40 < q) → C1 q = C q := fun q h1 h2 h3 => by rw [p2 q h1 h2 h3, mC q h1 h2 h3]
      have fC1 : ∀ c, c < n → fileC C1 c f (fl R c f) := fun c hc => fileC_of (fr 15 (by omega) (by omega) (by omega)) (fr 14 (by omega) (by omega) (by omega)) (F hc).1
      have epl1 : C1 (gh.2 (200 + j)) = C (gh.2 (200 + j)) := fr _ (by omega) (by omega) (by omega)
      have hlf : f9_lookFor gh C1 (gh.2 (200 + j)) (nI ch) (nI cj) = some (fdS (fl R ch f) (fl R cj f) a k) := s9_lookFor o7 (by rw [epl1]; exact q9) (by rw [epl1]; exact q11) (by rw [epl1]; exact q13) (by omega) (by omega) q3 (fC1 ch ch2) (fC1 cj y2) hak q4
      refine ⟨(C1, stp n R h s0 f a k i x), ⟨by omega, fr, ?_⟩, ?_⟩
      · show stp n R h s0 f a k i x = _
        rw [show i + 1 - s0 = (i - s0) + 1 by omega, up_snoc, ← i3, show s0 + (i - s0) = i by omega]
      · show f11_shown_70_s gh t M (nI S) (gh.2 (200 + j)) (100 + h) (nI ch) x (nI (i + 1)) = _
        unfold f11_shown_70_s f11_shown_130
        rw [if_pos (by rw [q_le (by omega) (by omega)]; omega), if_pos (is1 q1 hc), cA M (i + 1) mC (by omega), o1_some, show nI (i + 1) - 1 = nI i from by rw [q_1, q_sub (by omega)]; rfl, cA M i mC (by omega), o1_some, if_pos o7, epl, q9, x5, y5, p1, o2_some, hlf, o1_some, q_succ]
        show _ = t C1 (nI S) (gh.2 (200 + j)) (100 + h) (nI ch) (stp n R h s0 f a k i x) (nI (i + 1 + 1))
        rw [est]
        by_cases c0 : fwS (mts (fl R ci f) (fl R cj f) 0) (fl R ci f).length x = 0
        · rw [if_pos c0, if_pos c0]
        · rw [if_neg c0, if_neg c0]
    · rintro t ⟨M, x⟩ _
      show f11_shown_70_s gh t M (nI S) (gh.2 (200 + j)) (100 + h) (nI ch) x (nI (S + 1)) = _
      unfold f11_shown_70_s
      rw [if_neg (by rw [q_le (by omega) (by omega)]; omega)]
end

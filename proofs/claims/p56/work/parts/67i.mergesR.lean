/-! MERGED ROWS, the reference -/
def m9 (M R : rv_Mem) : Prop := (∀ q, q ≠ 3 → q ≠ 4 → (q < 53 ∨ 63 < q) → M q = R q) ∧ (∀ i, i < 324 → M 3 i = R 3 i) ∧ ∀ i, i < 3240 → M 4 i = R 4 i
theorem m9_file {M R : rv_Mem} (h : m9 M R) {c f : Nat} {X : List Int32} (hc : c < 81) (hf : f < 4) (hX : fileR R c f X) : fileR M c f X := by
  obtain ⟨x1, x2, x3⟩ := hX
  exact ⟨x1, by rw [h.2.1 _ (by omega)]; exact x2, fun p hp => by rw [h.2.2 _ (by omega)]; exact x3 p hp⟩
theorem s12_mergesFile {M0 : rv_Mem} {c0 c1 c2 f : Nat} {O A B : List Int32} (h64 : rv_z (M0 64 0) = false) (h0 : c0 < 82) (h1 : c1 < 82) (h2 : c2 < 82) (hf : f < 4) (hO : fileR M0 c0 f O) (hA : fileR M0 c1 f A) (hB : fileR M0 c2 f B) : ∃ ok M', f12_mergesFile M0 (nI c0) (nI c1) (nI c2) (nI f) = some (ok, M') ∧ (∀ q, q < 53 ∨ 63 < q → M' q = M0 q) ∧ (ok = true ↔ good O A B) ∧ (ok = true → rowst M' (mgd O A B)) := by
  obtain ⟨M1, a1, a2, a3, a4, a5⟩ := s12_laysHunks (M0 := M0) (w := 0) (by omega) h0 h1 hf hO hA
  have fR1 : ∀ c X, fileR M0 c f X → fileR M1 c f X := fun c X hX => fileR_of (a2 3 (by omega)) (a2 4 (by omega)) hX
  obtain ⟨M2, b1, b2, b3, b4, b5⟩ := s12_laysHunks (M0 := M1) (w := 1) (by omega) h0 h2 hf (fR1 _ _ hO) (fR1 _ _ hB)
  rw [h64] at a5
  rw [a2 64 (by omega), h64] at b5
  simp only [wd_false] at a5 b5
  have a5' : hokR M2 0 c0 c1 (hk O A) := by
    refine ⟨by rw [b4 0 (by omega)]; exact a5.1, fun i p d q e hi => ?_⟩
    have l := hk_len O A
    have lO := hO.1
    have hi2 : i < (hk O A).length := by
      apply Classical.byContradiction
      intro z
      rw [List.getElem?_eq_none (by omega)] at hi; cases hi
    obtain ⟨r1, r2, r3, r4, r5, r6⟩ := a5.2 i p d q e hi
    exact ⟨by rw [b3 55 (by omega) (by omega) _ (by omega)]; exact r1, by rw [b3 57 (by omega) (by omega) _ (by omega)]; exact r2, by rw [b3 56 (by omega) (by omega) _ (by omega)]; exact r3, by rw [b3 58 (by omega) (by omega) _ (by omega)]; exact r4, by rw [b3 59 (by omega) (by omega) _ (by omega)]; exact r5, by rw [b3 60 (by omega) (by omega) _ (by omega)]; exact r6⟩
  have y : ∀ q, q < 53 ∨ 61 < q → M2 q = M0 q := fun q hq => by rw [b2 q hq, a2 q hq]
  have fR2 : ∀ c X, fileR M0 c f X → fileR M2 c f X := fun c X hX => fileR_of (y 3 (by omega)) (y 4 (by omega)) hX
  obtain ⟨b, e1, e2⟩ := s12_conflict (M := M2) (by rw [y 64 (by omega)]; exact h64) h0 h1 h2 hf (fR2 _ _ hO) (fR2 _ _ hA) (fR2 _ _ hB) a5' b5
  have e0 : f12_mergesFile M0 (nI c0) (nI c1) (nI c2) (nI f) = if b = true then some (false, M2) else f12_mergesFile_44 rv_FU (rv_u M2 63 0 0) (nI c0) (nI f) 0 0 15 := by
    unfold f12_mergesFile
    rw [show (0 : Int32) = nI 0 from rfl, a1, o1_some, show (1 : Int32) = nI 1 from rfl, b1, o1_some, e1, o1_some]
    rfl
  rw [e0]
  cases b with
  | true =>
    rw [if_pos rfl]
    exact ⟨false, M2, rfl, fun q hq => y q (by omega), ⟨fun z => (by cases z), fun z => absurd (e2.mp rfl) z.1⟩, fun z => (by cases z)⟩
  | false =>
    rw [if_neg (by simp)]
    have nc : ¬ conf O A B := fun z => by have := e2.mpr z; cases this
    have u : ∀ q, q ≠ 63 → rv_u M2 63 0 0 q = M2 q := fun q hq => mu_ne hq
    have fR3 : ∀ c X, fileR M0 c f X → fileR (rv_u M2 63 0 0) c f X := fun c X hX => fileR_of (by rw [u 3 (by omega), y 3 (by omega)]) (by rw [u 4 (by omega), y 4 (by omega)]) hX
    have hk1 : ∀ w cX H, hokR M2 w c0 cX H → hokR (rv_u M2 63 0 0) w c0 cX H := fun w cX H h => by
      unfold hokR at h ⊢
      rw [u 61 (by omega), u 55 (by omega), u 56 (by omega), u 57 (by omega), u 58 (by omega), u 59 (by omega), u 60 (by omega)]
      exact h
    obtain ⟨M3, g1, g2, g3, g4⟩ := s12_mergedFile (M0 := rv_u M2 63 0 0) (by rw [u 64 (by omega), y 64 (by omega)]; exact h64) h0 h1 h2 hf (fR3 _ _ hO) (fR3 _ _ hA) (fR3 _ _ hB) (hk1 _ _ _ a5') (hk1 _ _ _ b5) nc ⟨mu_same _ _ _ _, fun p hp => absurd hp (Nat.not_lt_zero _)⟩
    refine ⟨_, M3, g1, fun q hq => by rw [g3 q (by omega) (by omega), u q (by omega), y q (by omega)], ?_, fun _ => g2⟩
    rw [decide_eq_true_iff]
    exact ⟨fun z => ⟨nc, z⟩, fun z => z.2⟩
theorem s12_merges {R : rv_Mem} {c0 c1 c2 : Nat} {O A B : Nat → List Int32} (h64 : rv_z (R 64 0) = false) (h0 : c0 < 81) (h1 : c1 < 81) (h2 : c2 < 81) (hO : ∀ f, f < 4 → fileR R c0 f (O f)) (hA : ∀ f, f < 4 → fileR R c1 f (A f)) (hB : ∀ f, f < 4 → fileR R c2 f (B f)) :
    ∃ ok M', f12_merges R (nI c0) (nI c1) (nI c2) = some (ok, M') ∧ m9 M' R ∧ (ok = true ↔ ∀ f, f < 4 → good (O f) (A f) (B f)) ∧ (ok = true → ∀ f, f < 4 → fileR M' 81 f (mgd (O f) (A f) (B f))) := by
  -- copying
  have copy : ∀ (t : rv_Mem → Int32 → Int32 → Int32 → Bool → Int32 → Option (Bool × rv_Mem)) M1 k (X : List Int32), k < 4 → X.length ≤ 10 → rowst M1 X → ∃ M', f12_merges_55 t rv_FU M1 (nI c0) (nI c1) (nI c2) true (nI k) 0 = t M' (nI c0) (nI c1) (nI c2) true (nI (k + 1)) ∧ (∀ q, q ≠ 4 → M' q = M1 q) ∧ (∀ i, i < 10 * (324 + k) ∨ 10 * (324 + k) + 10 ≤ i → M' 4 i = M1 4 i) ∧ ∀ p, p < X.length → M' 4 (10 * (324 + k) + p) = X.getD p 0 := by
    intro t M1 k X hk hX hr
    have L := rv_ui (z := (fun _ _ _ _ _ _ _ => none)) (F := f12_merges_55_s t) (fun T p M => T M (nI c0) (nI c1) (nI c2) true (nI k) (nI p)) X.length (fun p M => (∀ q, q ≠ 4 → M q = M1 q) ∧ (∀ i, i < 10 * (324 + k) ∨ 10 * (324 + k) + 10 ≤ i → M 4 i = M1 4 i) ∧ ∀ p', p' < p → M 4 (10 * (324 + k) + p') = X.getD p' 0) (fun M => t M (nI c0) (nI c1) (nI c2) true (nI (k + 1))) ?_ ?_ rv_FU 0 M1 (Nat.zero_le _) (FU_lt (by omega)) ⟨fun _ _ => rfl, fun _ _ => rfl, fun p hp => absurd hp (Nat.not_lt_zero _)⟩
    · obtain ⟨M', ⟨x1, x2, x3⟩, x4⟩ := L
      exact ⟨M', x4, x1, x2, x3⟩
    · rintro T p M hp ⟨i1, i2, i3⟩
      have e1 : (10 : Int32) * ((324 : Int32) + nI k) + nI p = nI (10 * (324 + k) + p) := by
        rw [show (324 : Int32) + nI k = nI (324 + k) from q_add 324 k, q_10, q_mul, q_add]
      refine ⟨rv_u M 4 (10 * (324 + k) + p) (X.getD p 0), ⟨fun q hq => by rw [mu_ne hq]; exact i1 q hq, fun i hi => by rw [mu_ne2 (by omega)]; exact i2 i hi, fun p' hp' => ?_⟩, ?_⟩
      · by_cases e : p' = p
        · subst e; rw [mu_same]
        · rw [mu_ne2 (by omega)]; exact i3 p' (by omega)
      · show f12_merges_55_s t T M (nI c0) (nI c1) (nI c2) true (nI k) (nI p) = _
        unfold f12_merges_55_s
        rw [i1 63 (by omega), hr.1, if_pos (by rw [q_lt (by omega) (by omega)]; exact hp), if_pos rfl, if_pos (q_inb (by omega) (by omega)), e1, if_pos (q_inb (by omega) (by omega)), q_nc (by omega), q_nc (by omega), i1 62 (by omega), hr.2 p hp, lt_do, q_succ]
    · rintro T M ⟨i1, i2, i3⟩
      show f12_merges_55_s t T M (nI c0) (nI c1) (nI c2) true (nI k) (nI X.length) = _
      unfold f12_merges_55_s f12_merges_99
      rw [i1 63 (by omega), hr.1, if_neg (by rw [q_lt (by omega) (by omega)]; omega), q_succ]
  refine rv_ux (z := (fun _ _ _ _ _ _ => none)) (F := f12_merges_6_s) (fun t k (s : rv_Mem × Bool) => t s.1 (nI c0) (nI c1) (nI c2) s.2 (nI k)) 4 (fun k s => m9 s.1 R ∧ (s.2 = true → ∀ f, f < k → good (O f) (A f) (B f) ∧ fileR s.1 81 f (mgd (O f) (A f) (B f))) ∧ (s.2 = false → ∃ f, f < 4 ∧ ¬ good (O f) (A f) (B f))) (fun r => ∃ ok M', r = some (ok, M') ∧ m9 M' R ∧ (ok = true ↔ ∀ f, f < 4 → good (O f) (A f) (B f)) ∧ (ok = true → ∀ f, f < 4 → fileR M' 81 f (mgd (O f) (A f) (B f)))) ?_ ?_ rv_FU 0 (R, true) (Nat.zero_le _) (FU_lt (by omega)) ⟨⟨fun _ _ _ _ => rfl, fun _ _ => rfl, fun _ _ => rfl⟩, fun _ f hf => absurd hf (Nat.not_lt_zero _), fun z => (by cases z)⟩
  · rintro t k ⟨M, b⟩ hk ⟨i1, i2, i3⟩
    have i1 : m9 M R := i1
    have i2 : b = true → ∀ f, f < k → good (O f) (A f) (B f) ∧ fileR M 81 f (mgd (O f) (A f) (B f)) := i2
    have i3 : b = false → ∃ f, f < 4 ∧ ¬ good (O f) (A f) (B f) := i3
    show (∃ ok M', f12_merges_6_s t M (nI c0) (nI c1) (nI c2) b (nI k) = some (ok, M') ∧ _) ∨ ∃ a' : rv_Mem × Bool, _ ∧ f12_merges_6_s t M (nI c0) (nI c1) (nI c2) b (nI k) = _
    cases b with
    | false =>
      left
      obtain ⟨f, f1, f2⟩ := i3 rfl
      refine ⟨false, M, ?_, i1, ⟨fun z => (by cases z), fun z => absurd (z f f1) f2⟩, fun z => (by cases z)⟩
      unfold f12_merges_6_s
      rw [if_neg (show ¬ (false = true) by simp), ite_self]
    | true =>
      right
      have i1 : m9 M R := i1
      have i2 : ∀ f, f < k → good (O f) (A f) (B f) ∧ fileR M 81 f (mgd (O f) (A f) (B f)) := i2 rfl
      obtain ⟨ok, M1, m1, m2, m3, m4⟩ := s12_mergesFile (M0 := M) (by rw [i1.1 64 (by omega) (by omega) (by omega)]; exact h64) (show c0 < 82 by omega) (show c1 < 82 by omega) (show c2 < 82 by omega) hk (m9_file i1 h0 hk (hO k hk)) (m9_file i1 h1 hk (hA k hk)) (m9_file i1 h2 hk (hB k hk))
      have e324 : (324 : Int32) + nI k = nI (324 + k) := q_add 324 k
      have e0 : f12_merges_6_s t M (nI c0) (nI c1) (nI c2) true (nI k) = f12_merges_55 t rv_FU (rv_u M1 3 (324 + k) (if ok = true then M1 63 0 else 0)) (nI c0) (nI c1) (nI c2) ok (nI k) 0 := by
        unfold f12_merges_6_s f12_merges_51
        rw [q_4, if_pos (by rw [q_lt (by omega) (by omega)]; exact hk), if_pos rfl, m1, o2_some, e324, if_pos (q_inb (by omega) (by omega)), q_nc (by omega), lt_do]
        cases ok with
        | true => rw [if_pos rfl, if_pos rfl]
        | false =>
          rw [if_neg (show ¬ (false = true) by simp), if_neg (show ¬ (false = true) by simp), if_pos (q_inb (by omega) (by omega)), lt_do]
      rw [e0]
      cases ok with
      | false =>
        refine ⟨(rv_u M1 3 (324 + k) 0, false), ⟨⟨fun q q3 q4 hq => ?_, fun i hi => ?_, fun i hi => ?_⟩, fun z => (by cases z), fun _ => ⟨k, hk, fun z => by have := m3.mpr z; cases this⟩⟩, ?_⟩
        · show rv_u M1 3 (324 + k) 0 q = R q
          rw [mu_ne q3, m2 q (by omega), i1.1 q q3 q4 hq]
        · show rv_u M1 3 (324 + k) 0 3 i = R 3 i
          rw [mu_ne2 (by omega), m2 3 (by omega), i1.2.1 i hi]
        · show rv_u M1 3 (324 + k) 0 4 i = R 4 i
          rw [mu_ne (by omega), m2 4 (by omega), i1.2.2 i hi]
        · rw [if_neg (show ¬ (false = true) by simp)]
          show rv_fx _ (f12_merges_55_s t) rv_FU (rv_u M1 3 (324 + k) 0) (nI c0) (nI c1) (nI c2) false (nI k) 0 = _
          rw [fx_FU]
          generalize rv_fx _ (f12_merges_55_s t) 99999 = T
          unfold f12_merges_55_s f12_merges_99
          rw [if_neg (show ¬ (false = true) by simp), ite_self, q_succ]
      | true =>
        rw [if_pos rfl]
        have hr := m4 rfl
        have hg := m3.mp rfl
        obtain ⟨M', w1, w2, w3, w4⟩ := copy t (rv_u M1 3 (324 + k) (M1 63 0)) k (mgd (O k) (A k) (B k)) hk hg.2 ⟨by rw [mu_ne (by omega)]; exact hr.1, fun p hp => by rw [mu_ne (by omega)]; exact hr.2 p hp⟩
        refine ⟨(M', true), ⟨⟨fun q q3 q4 hq => ?_, fun i hi => ?_, fun i hi => ?_⟩, fun _ f hf => ?_, fun z => (by cases z)⟩, w1⟩
        · show M' q = R q
          rw [w2 q q4, mu_ne q3, m2 q (by omega), i1.1 q q3 q4 hq]
        · show M' 3 i = R 3 i
          rw [w2 3 (by omega), mu_ne2 (by omega), m2 3 (by omega), i1.2.1 i hi]
        · show M' 4 i = R 4 i
          rw [w3 i (by omega), mu_ne (by omega), m2 4 (by omega), i1.2.2 i hi]
        · show good (O f) (A f) (B f) ∧ fileR M' 81 f (mgd (O f) (A f) (B f))
          by_cases e : f = k
          · subst e
            refine ⟨hg, hg.2, ?_, fun p hp => ?_⟩
            · rw [w2 3 (by omega), show 4 * 81 + f = 324 + f by omega, mu_same]; exact hr.1
            · rw [show 10 * (4 * 81 + f) + p = 10 * (324 + f) + p by omega]; exact w4 p hp
          · obtain ⟨g1, g2, g3, g4⟩ := i2 f (by omega)
            refine ⟨g1, g2, ?_, fun p hp => ?_⟩
            · rw [w2 3 (by omega), mu_ne2 (by omega), m2 3 (by omega)]; exact g3
            · rw [w3 _ (by omega), mu_ne (by omega), m2 4 (by omega)]; exact g4 p hp
  · rintro t ⟨M, b⟩ ⟨i1, i2, i3⟩
    have i1 : m9 M R := i1
    have i2 : b = true → ∀ f, f < 4 → good (O f) (A f) (B f) ∧ fileR M 81 f (mgd (O f) (A f) (B f)) := i2
    have i3 : b = false → ∃ f, f < 4 ∧ ¬ good (O f) (A f) (B f) := i3
    refine ⟨b, M, ?_, i1, ⟨fun z f hf => (i2 z f hf).1, fun z => ?_⟩, fun z f hf => (i2 z f hf).2⟩
    · show f12_merges_6_s t M (nI c0) (nI c1) (nI c2) b (nI 4) = _
      unfold f12_merges_6_s
      rw [if_neg (by decide)]
    · cases b with
      | true => rfl
      | false =>
        obtain ⟨f, f1, f2⟩ := i3 rfl
        exact absurd (z f f1) f2

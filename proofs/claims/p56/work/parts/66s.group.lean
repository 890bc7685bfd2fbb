/-! group -/
/-- a draws b -/
def dr (n : Nat) (R : rv_Mem) (a b : Nat) : Prop := R 13 b = nI 0 ∧ ((R 17 a ≠ NO ∧ R 17 b = R 17 a) ∨ parS n R a = nI b)
def clo (n ch : Nat) (R : rv_Mem) (y : Nat → Prop) : Prop := ∀ a b, a < ch → b < ch → y a → dr n R a b → y b
def isG (n ch : Nat) (R : rv_Mem) (s : Nat) (x : Int32) : Prop := bt x s = true ∧ clo n ch R (fun i => bt x i = true) ∧ (∀ y : Nat → Prop, y s → clo n ch R y → ∀ i, i < 32 → bt x i = true → y i) ∧ ∀ i, i < 32 → ch ≤ i → bt x i = false
theorem isG_uniq {n ch : Nat} {R : rv_Mem} {s : Nat} {x x' : Int32} (h : isG n ch R s x) (h' : isG n ch R s x') : x = x' := by
  apply b_ext
  intro i hi
  cases e : bt x i with
  | true => exact (h.2.2.1 (fun i => bt x' i = true) h'.1 h'.2.1 i hi e).symm
  | false =>
    cases e' : bt x' i with
    | false => rfl
    | true =>
      have := h'.2.2.1 (fun i => bt x i = true) h.1 h.2.1 i hi e'
      rw [this] at e; cases e
theorem cn_bt {x x' : Int32} {ch : Nat} (hc : ch ≤ 20) (hs : ∀ i, i < 32 → bt x i = true → bt x' i = true) (hr : ∀ i, i < 32 → ch ≤ i → bt x' i = false) (hne : x' ≠ x) : cn (bt x) 0 ch + 1 ≤ cn (bt x') 0 ch := by
  refine cn_lt ch 0 (fun j _ hj z => hs j (by omega) z) ?_
  apply Classical.byContradiction
  intro c
  apply hne
  apply b_ext
  intro i hi
  cases e : bt x' i with
  | false =>
    cases e2 : bt x i with
    | false => rfl
    | true => rw [hs i hi e2] at e; cases e
  | true =>
    cases e2 : bt x i with
    | true => rfl
    | false =>
      exfalso
      apply c
      refine ⟨i, Nat.zero_le _, ?_, e, by rw [e2]; simp⟩
      apply Classical.byContradiction
      intro z
      rw [hr i hi (by omega)] at e; cases e
theorem Rn.drawn {n : Nat} {gh : rC_gh} {C R : rv_Mem} (hR : Rn n gh C R) {a : Nat} (ha : a < gh.1 0) : ∃ x, f5_drawnBy gh C (100 + a) = some x ∧ (∀ b, b < gh.1 0 → (bt x b = true ↔ dr n R a b)) ∧ ∀ i, i < 32 → gh.1 0 ≤ i → bt x i = false := by
  have hc := hR.ch20
  obtain ⟨p, p1, -, p3, p4⟩ := hR.parent ha
  have t8 : C (100 + a) 8 = R 17 a := (hR.chg a ha).2.2.2.2.2.2.1.1
  have L := rv_ui (z := (fun _ _ _ _ => none)) (F := f5_drawnBy_17_s gh C) (fun t j x => t (100 + a) p x (nI j)) (gh.1 0) (fun j x => (∀ b, b < j → (bt x b = true ↔ dr n R a b)) ∧ ∀ i, i < 32 → j ≤ i → bt x i = false) some ?_ ?_ rv_FU 0 0 (Nat.zero_le _) (FU_lt (by omega)) ⟨fun b hb => absurd hb (Nat.not_lt_zero _), fun i _ _ => b_0 i⟩
  · obtain ⟨x, ⟨x1, x2⟩, x3⟩ := L
    refine ⟨x, ?_, x1, x2⟩
    unfold f5_drawnBy
    rw [if_pos (is1 ha hc), (hR.chg a ha).1, p1, o1_some]
    exact x3
  · rintro t b x hb ⟨i1, i2⟩
    obtain ⟨-, -, -, ⟨s, s1, s2, s3⟩, -, -, ⟨e8, -⟩, -⟩ := hR.chg b hb
    have s5 : (C (100 + b) 5 = 0) = (R 13 b = nI 0) := by rw [s2, s3]; rfl
    have step : (f5_drawnBy_17_s gh C t (100 + a) p x (nI b) = t (100 + a) p (x ||| ((1 : Int32) <<< (nI b &&& 31))) (nI (b + 1)) ∧ dr n R a b) ∨ (f5_drawnBy_17_s gh C t (100 + a) p x (nI b) = t (100 + a) p x (nI (b + 1)) ∧ ¬ dr n R a b) := by
      unfold f5_drawnBy_17_s f5_drawnBy_67 f5_drawnBy_68 f5_drawnBy_89 f5_drawnBy_96 dr
      rw [if_pos (by rw [q_lt (by omega) (by omega)]; exact hb), if_pos (q_inb hb (by omega)), q_nc (by omega), if_pos (is1 hb hc), if_pos (is1 ha hc), t8, e8, q_succ, p3]
      have nn : (nI b = p) = (p = nI b) := propext ⟨Eq.symm, Eq.symm⟩
      simp only [s5, q_no, nn, is1 hb hc, if_true, e8]
      by_cases c1 : R 13 b = nI 0
      · by_cases c2 : R 17 a = NO
        · by_cases c4 : p = nI b
          · left; simp [c1, c2, c4]
          · right; simp [c1, c2, c4]
        · by_cases c3 : R 17 b = R 17 a
          · left; simp [c1, c2, c3]
          · by_cases c4 : p = nI b
            · left; simp [c1, c2, c3, c4]
            · right; simp [c1, c2, c3, c4]
      · right; simp [c1]
    rcases step with ⟨e1, e2⟩ | ⟨e1, e2⟩
    · refine ⟨_, ⟨fun b' hb' => ?_, fun i hi hle => ?_⟩, e1⟩
      · rw [b_or, b_shl1 b (by omega) b' (by omega)]
        by_cases e : b' = b
        · subst e; simp [e2]
        · rw [decide_eq_false e, Bool.or_false]; exact i1 b' (by omega)
      · rw [b_or, b_shl1 b (by omega) i hi, i2 i hi (by omega), decide_eq_false (show ¬ i = b by omega)]; rfl
    · refine ⟨x, ⟨fun b' hb' => ?_, fun i hi hle => i2 i hi (by omega)⟩, e1⟩
      by_cases e : b' = b
      · subst e
        rw [i2 b' (by omega) (Nat.le_refl _)]
        exact ⟨fun z => (by cases z), fun z => absurd z e2⟩
      · exact i1 b' (by omega)
  · rintro t x -
    show f5_drawnBy_17_s gh C t (100 + a) p x (nI (gh.1 0)) = _
    unfold f5_drawnBy_17_s
    rw [if_neg (by rw [q_lt (by omega) (by omega)]; omega)]
theorem Rn.groupC {n : Nat} {gh : rC_gh} {C R : rv_Mem} (hR : Rn n gh C R) {s : Nat} (hs : s < gh.1 0) : ∃ x, f5_groupOf gh C (nI s) = some x ∧ isG n (gh.1 0) R s x := by
  have hc := hR.ch20
  -- one round
  have round : ∀ (t : Int32 → Bool → Int32 → Option Int32) x0 k, (∀ i, i < 32 → gh.1 0 ≤ i → bt x0 i = false) → ∃ x, f5_groupOf_26 gh C t rv_FU x0 (nI k) x0 0 = (if ¬ x = x0 then t x true (nI (k + 1)) else t x false (nI (k + 1))) ∧ (∀ i, i < 32 → bt x0 i = true → bt x i = true) ∧ (∀ y : Nat → Prop, clo n (gh.1 0) R y → (∀ i, i < 32 → bt x0 i = true → y i) → ∀ i, i < 32 → bt x i = true → y i) ∧ (∀ a, a < gh.1 0 → bt x0 a = true → ∀ b, b < gh.1 0 → dr n R a b → bt x b = true) ∧ ∀ i, i < 32 → gh.1 0 ≤ i → bt x i = false := by
    intro t x0 k hr0
    have L := rv_ui (z := (fun _ _ _ _ => none)) (F := f5_groupOf_26_s gh C t) (fun T j x => T x (nI k) x0 (nI j)) (gh.1 0) (fun j x => (∀ i, i < 32 → bt x0 i = true → bt x i = true) ∧ (∀ y : Nat → Prop, clo n (gh.1 0) R y → (∀ i, i < 32 → bt x0 i = true → y i) → ∀ i, i < 32 → bt x i = true → y i) ∧ (∀ a, a < j → bt x0 a = true → ∀ b, b < gh.1 0 → dr n R a b → bt x b = true) ∧ ∀ i, i < 32 → gh.1 0 ≤ i → bt x i = false) (fun x => if ¬ x = x0 then t x true (nI (k + 1)) else t x false (nI (k + 1))) ?_ ?_ rv_FU 0 x0 (Nat.zero_le _) (FU_lt (by omega)) ⟨fun _ _ z => z, fun y _ h i hi z => h i hi z, fun a ha => absurd ha (Nat.not_lt_zero _), hr0⟩
    · obtain ⟨x, x1, x2⟩ := L
      exact ⟨x, x2, x1⟩
    · rintro T j x hj ⟨i1, i2, i3, i4⟩
      obtain ⟨w, w1, w2, w3⟩ := hR.drawn hj
      have step : f5_groupOf_26_s gh C t T x (nI k) x0 (nI j) = if bt x j = true then T (x ||| w) (nI k) x0 (nI (j + 1)) else T x (nI k) x0 (nI (j + 1)) := by
        unfold f5_groupOf_26_s f5_groupOf_66
        rw [if_pos (by rw [q_lt (by omega) (by omega)]; exact hj), s11_isIn (by omega), o1_some, if_pos (q_inb hj (by omega)), q_nc (by omega), if_pos (is1 hj hc), w1, o1_some, q_succ]
      show ∃ a', _ ∧ f5_groupOf_26_s gh C t T x (nI k) x0 (nI j) = _
      rw [step]
      by_cases c : bt x j = true
      · rw [if_pos c]
        refine ⟨x ||| w, ⟨fun i hi z => by rw [b_or, i1 i hi z]; rfl, fun y hy h0 i hi z => ?_, fun a ha h0 b hb hd => ?_, fun i hi hle => by rw [b_or, i4 i hi hle, w3 i hi hle]; rfl⟩, rfl⟩
        · rw [b_or, Bool.or_eq_true] at z
          rcases z with z | z
          · exact i2 y hy h0 i hi z
          · by_cases hlt : i < gh.1 0
            · exact hy j i hj hlt (i2 y hy h0 j (by omega) c) ((w2 i hlt).mp z)
            · rw [w3 i hi (by omega)] at z; cases z
        · rw [b_or]
          by_cases e : a = j
          · subst e; rw [(w2 b hb).mpr hd]; simp
          · rw [i3 a (by omega) h0 b hb hd]; rfl
      · rw [if_neg c]
        refine ⟨x, ⟨i1, i2, fun a ha h0 b hb hd => ?_, i4⟩, rfl⟩
        by_cases e : a = j
        · subst e; exact absurd (i1 a (by omega) h0) c
        · exact i3 a (by omega) h0 b hb hd
    · rintro T x -
      show f5_groupOf_26_s gh C t T x (nI k) x0 (nI (gh.1 0)) = _
      unfold f5_groupOf_26_s f5_groupOf_83
      rw [if_neg (by rw [q_lt (by omega) (by omega)]; omega), q_succ]
  refine rv_ux (z := (fun _ _ _ => none)) (F := f5_groupOf_9_s gh C) (fun t k (q : Int32 × Bool) => t q.1 q.2 (nI k)) 20 (fun k q => bt q.1 s = true ∧ (∀ y : Nat → Prop, y s → clo n (gh.1 0) R y → ∀ i, i < 32 → bt q.1 i = true → y i) ∧ (∀ i, i < 32 → gh.1 0 ≤ i → bt q.1 i = false) ∧ (q.2 = false → clo n (gh.1 0) R (fun i => bt q.1 i = true)) ∧ (q.2 = true → k + 1 ≤ cn (bt q.1) 0 (gh.1 0))) (fun r => ∃ x, r = some x ∧ isG n (gh.1 0) R s x) ?_ ?_ rv_FU 0 ((1 : Int32) <<< (nI s &&& 31), true) (Nat.zero_le _) (FU_lt (by omega)) ⟨?_, ?_, ?_, fun z => (by cases z), fun _ => ?_⟩
  · rintro t k ⟨x, more⟩ hk ⟨i1, i2, i3, i4, i5⟩
    have i1 : bt x s = true := i1
    have i3 : ∀ i, i < 32 → gh.1 0 ≤ i → bt x i = false := i3
    have i2 : ∀ y : Nat → Prop, y s → clo n (gh.1 0) R y → ∀ i, i < 32 → bt x i = true → y i := i2
    show (∃ x', f5_groupOf_9_s gh C t x more (nI k) = some x' ∧ _) ∨ ∃ a' : Int32 × Bool, _ ∧ f5_groupOf_9_s gh C t x more (nI k) = _
    have step : f5_groupOf_9_s gh C t x more (nI k) = if more = true then f5_groupOf_26 gh C t rv_FU x (nI k) x 0 else some x := by
      unfold f5_groupOf_9_s
      rw [if_pos (by rw [q_20, q_lt (by omega) (by omega)]; exact hk)]
    rw [step]
    cases more with
    | true =>
      have i5 : k + 1 ≤ cn (bt x) 0 (gh.1 0) := i5 rfl
      right
      rw [if_pos rfl]
      obtain ⟨x', x1, x2, x3, x4, x5⟩ := round t x k i3
      rw [x1]
      by_cases e : x' = x
      · rw [if_neg (fun z => z e)]
        refine ⟨(x', false), ⟨by rw [e]; exact i1, by rw [e]; exact i2, x5, fun _ a b ha hb hya hd => ?_, fun z => (by cases z)⟩, rfl⟩
        have hya : bt x' a = true := hya
        rw [e] at hya
        exact x4 a ha hya b hb hd
      · rw [if_pos e]
        refine ⟨(x', true), ⟨x2 s (by omega) i1, fun y hy hcl i hi z => x3 y hcl (fun i hi z => i2 y hy hcl i hi z) i hi z, x5, fun z => (by cases z), fun _ => ?_⟩, rfl⟩
        have := cn_bt hc x2 x5 e
        show k + 1 + 1 ≤ cn (bt x') 0 (gh.1 0)
        omega
    | false =>
      left
      rw [if_neg (by simp)]
      exact ⟨x, rfl, i1, i4 rfl, i2, i3⟩
  · rintro t ⟨x, more⟩ ⟨i1, i2, i3, i4, i5⟩
    have hm : more = false := by
      cases more with
      | false => rfl
      | true =>
        have i5 : 20 + 1 ≤ cn (bt x) 0 (gh.1 0) := i5 rfl
        have := cn_le (bt x) (gh.1 0) 0
        omega
    subst hm
    refine ⟨x, ?_, i1, i4 rfl, i2, i3⟩
    show f5_groupOf_9_s gh C t x false (nI 20) = _
    unfold f5_groupOf_9_s
    rw [if_neg (by decide)]
  · show bt ((1 : Int32) <<< (nI s &&& 31)) s = true
    rw [b_shl1 s (by omega) s (by omega)]; simp
  · intro y hy _ i hi z
    have z : bt ((1 : Int32) <<< (nI s &&& 31)) i = true := z
    rw [b_shl1 s (by omega) i hi] at z
    rw [of_decide_eq_true z]; exact hy
  · intro i hi hle
    show bt ((1 : Int32) <<< (nI s &&& 31)) i = false
    rw [b_shl1 s (by omega) i hi]
    exact decide_eq_false (by omega)
  · refine cn_pos (j := s) (Nat.zero_le _) (by omega) ?_
    show bt ((1 : Int32) <<< (nI s &&& 31)) s = true
    rw [b_shl1 s (by omega) s (by omega)]; simp
theorem Rn.hasT {n : Nat} {gh : rC_gh} {C R : rv_Mem} (hR : Rn n gh C R) (g t : Int32) : ∃ b, f12_hasTopic R g t = some b ∧ (b = true ↔ ∃ a, a < gh.1 0 ∧ bt g a = true ∧ R 17 a = t) := by
  have hc := hR.ch20
  have L := rv_ui (z := (fun _ _ _ _ => none)) (F := f12_hasTopic_5_s R) (fun T j b => T g t b (nI j)) (gh.1 0) (fun j b => b = true ↔ ∃ a, a < j ∧ bt g a = true ∧ R 17 a = t) some ?_ ?_ rv_FU 0 false (Nat.zero_le _) (FU_lt (by omega)) ⟨fun z => (by cases z), fun ⟨a, ha, _⟩ => absurd ha (Nat.not_lt_zero _)⟩
  · obtain ⟨b, b1, b2⟩ := L
    exact ⟨b, b2, b1⟩
  · rintro T j b hj hI
    have step : f12_hasTopic_5_s R T g t b (nI j) = T g t (b || (bt g j && decide (R 17 j = t))) (nI (j + 1)) := by
      unfold f12_hasTopic_5_s f12_hasTopic_38 f12_hasTopic_42 f12_hasTopic_43 f12_isOf
      rw [if_pos (by rw [hR.cnt.2.2.2.2.1, q_lt (by omega) (by omega)]; exact hj)]
      simp only [b_test (show j < 32 by omega), q_inb (show j < 20 by omega) (show j < 2147483648 by omega), if_true, q_nc (show j < 2147483648 by omega), q_succ]
      cases b with
      | true => rfl
      | false =>
        rw [if_pos rfl]
        cases bt g j with
        | false => simp only [bf_t, if_false, o1_some]; rfl
        | true =>
          simp only [if_true, o1_some]
          by_cases c : R 17 j = t
          · rw [if_pos c, decide_eq_true c]; rfl
          · rw [if_neg c, decide_eq_false c]; rfl
    refine ⟨_, ?_, step⟩
    rw [Bool.or_eq_true, hI, Bool.and_eq_true, decide_eq_true_iff]
    constructor
    · rintro (⟨a, a1, a2, a3⟩ | ⟨a2, a3⟩)
      · exact ⟨a, by omega, a2, a3⟩
      · exact ⟨j, by omega, a2, a3⟩
    · rintro ⟨a, a1, a2, a3⟩
      by_cases e : a = j
      · subst e; exact Or.inr ⟨a2, a3⟩
      · exact Or.inl ⟨a, by omega, a2, a3⟩
  · rintro T b -
    show f12_hasTopic_5_s R T g t b (nI (gh.1 0)) = _
    unfold f12_hasTopic_5_s
    rw [if_neg (by rw [hR.cnt.2.2.2.2.1, q_lt (by omega) (by omega)]; omega)]
theorem Rn.groupR {n : Nat} {gh : rC_gh} {C R : rv_Mem} (hR : Rn n gh C R) {s : Nat} (hs : s < gh.1 0) : ∃ x, f12_groupOf R (nI s) = some x ∧ isG n (gh.1 0) R s x := by
  have hc := hR.ch20
  have round : ∀ (t : Int32 → Int32 → Option Int32) x0, (∀ i, i < 32 → gh.1 0 ≤ i → bt x0 i = false) → ∃ x, f12_groupOf_16 R t rv_FU x0 x0 0 = t x x0 ∧ (∀ i, i < 32 → bt x0 i = true → bt x i = true) ∧ (∀ y : Nat → Prop, clo n (gh.1 0) R y → (∀ i, i < 32 → bt x0 i = true → y i) → ∀ i, i < 32 → bt x i = true → y i) ∧ (∀ a, a < gh.1 0 → bt x0 a = true → ∀ b, b < gh.1 0 → dr n R a b → bt x b = true) ∧ ∀ i, i < 32 → gh.1 0 ≤ i → bt x i = false := by
    intro t x0 hr0
    have L := rv_ui (z := (fun _ _ _ => none)) (F := f12_groupOf_16_s R t) (fun T j x => T x x0 (nI j)) (gh.1 0) (fun j x => (∀ i, i < 32 → bt x0 i = true → bt x i = true) ∧ (∀ y : Nat → Prop, clo n (gh.1 0) R y → (∀ i, i < 32 → bt x0 i = true → y i) → ∀ i, i < 32 → bt x i = true → y i) ∧ (∀ a, a < j → bt x0 a = true → ∀ b, b < gh.1 0 → R 13 b = nI 0 → parS n R a = nI b → bt x b = true) ∧ (∀ b, b < j → (∃ a, a < gh.1 0 ∧ bt x0 a = true ∧ R 13 b = nI 0 ∧ R 17 a ≠ NO ∧ R 17 b = R 17 a) → bt x b = true) ∧ ∀ i, i < 32 → gh.1 0 ≤ i → bt x i = false) (fun x => t x x0) ?_ ?_ rv_FU 0 x0 (Nat.zero_le _) (FU_lt (by omega)) ⟨fun _ _ z => z, fun y _ h i hi z => h i hi z, fun a ha => absurd ha (Nat.not_lt_zero _), fun a ha => absurd ha (Nat.not_lt_zero _), hr0⟩
    · obtain ⟨x, ⟨x1, x2, x3, x4, x5⟩, x6⟩ := L
      refine ⟨x, x6, x1, x2, fun a ha h0 b hb hd => ?_, x5⟩
      rcases hd.2 with ⟨h1, h2⟩ | h1
      · exact x4 b hb ⟨a, ha, h0, hd.1, h1, h2⟩
      · exact x3 a ha h0 b hb hd.1 h1
    · rintro T j x hj ⟨i1, i2, i3, i4, i5⟩
      obtain ⟨p, -, p2, p3, p4⟩ := hR.parent hj
      obtain ⟨bT, t1, t2⟩ := hR.hasT x0 (R 17 j)
      have h20 : rv_in (nI j) 20 = true := q_inb (by omega) (by omega)
      -- the second half
      have second : ∀ y w : Int32, ∃ z, f12_groupOf_71 R t T x0 (nI j) y w = T z x0 (nI (j + 1)) ∧ ((z = (y ||| w) ∧ ¬ (R 13 j = nI 0 ∧ R 17 j ≠ NO ∧ bT = true)) ∨ (z = ((y ||| w) ||| ((1 : Int32) <<< (nI j &&& 31))) ∧ (R 13 j = nI 0 ∧ R 17 j ≠ NO ∧ bT = true))) := by
        intro y w
        unfold f12_groupOf_71 f12_groupOf_117 f12_groupOf_118
        simp only [h20, if_true, q_nc (show j < 2147483648 by omega), t1, o1_some, q_succ, Int32.or_zero]
        by_cases c1 : R 13 j = 0
        · rw [if_pos c1]
          by_cases c2 : R 17 j = -1
          · rw [if_neg (fun z => z c2)]
            exact ⟨_, rfl, Or.inl ⟨rfl, fun z => z.2.1 c2⟩⟩
          · rw [if_pos c2]
            cases bT with
            | true => exact ⟨_, rfl, Or.inr ⟨rfl, c1, c2, rfl⟩⟩
            | false => exact ⟨_, rfl, Or.inl ⟨rfl, fun z => by cases z.2.2⟩⟩
        · rw [if_neg c1]
          exact ⟨_, rfl, Or.inl ⟨rfl, fun z => c1 z.1⟩⟩
      -- the first half
      have first : ∃ y w, f12_groupOf_16_s R t T x x0 (nI j) = f12_groupOf_71 R t T x0 (nI j) y w ∧ y = x ∧ ((w = 0 ∧ ∀ b, b < gh.1 0 → bt x j = true → R 13 b = nI 0 → parS n R j = nI b → False) ∨ ∃ b, b < gh.1 0 ∧ w = (1 : Int32) <<< (nI b &&& 31) ∧ bt x j = true ∧ R 13 b = nI 0 ∧ parS n R j = nI b) := by
        unfold f12_groupOf_16_s f12_groupOf_44 f12_groupOf_70 f12_isOf
        rw [if_pos (by rw [hR.cnt.2.2.2.2.1, q_lt (by omega) (by omega)]; exact hj), p2, o1_some]
        simp only [b_test (show j < 32 by omega)]
        cases hb : bt x j with
        | false =>
          simp only [bf_t, if_false, o1_some]
          exact ⟨x, 0, rfl, rfl, Or.inl ⟨rfl, fun b _ z => (by cases z)⟩⟩
        | true =>
          simp only [if_true, o1_some]
          rcases p4 with rfl | ⟨q, hq, rfl⟩
          · refine ⟨x, 0, rfl, rfl, Or.inl ⟨rfl, fun b hb2 _ _ z => ?_⟩⟩
            rw [p3, q_no_eq' (by omega)] at z; exact z
          · rw [if_pos (by rw [q_no, q_no_eq (by omega)]; exact fun z => z), if_pos (q_inb (show q < 20 by omega) (by omega)), q_nc (by omega)]
            by_cases c1 : R 13 q = 0
            · rw [if_pos c1]
              exact ⟨x, _, rfl, rfl, Or.inr ⟨q, hq, rfl, trivial, c1, p3⟩⟩
            · rw [if_neg c1]
              refine ⟨x, 0, rfl, rfl, Or.inl ⟨rfl, fun b hb2 _ z1 z2 => ?_⟩⟩
              rw [p3, q_eq (by omega) (by omega)] at z2
              subst z2
              exact c1 z1
      obtain ⟨y, w, f1, f2, f3⟩ := first
      subst f2
      obtain ⟨z, g1, g2⟩ := second y w
      refine ⟨z, ?_, by show f12_groupOf_16_s R t T y x0 (nI j) = _; rw [f1, g1]⟩
      -- bits of w
      have bw : ∀ i, i < 32 → (bt w i = true ↔ (i < gh.1 0 ∧ bt y j = true ∧ R 13 i = nI 0 ∧ parS n R j = nI i)) := by
        intro i hi
        rcases f3 with ⟨rfl, h1⟩ | ⟨b, b1, rfl, b2, b3, b4⟩
        · rw [b_0]
          exact ⟨fun z => (by cases z), fun z => (h1 i z.1 z.2.1 z.2.2.1 z.2.2.2).elim⟩
        · rw [b_shl1 b (by omega) i hi, decide_eq_true_iff]
          constructor
          · rintro rfl; exact ⟨b1, b2, b3, b4⟩
          · rintro ⟨h1, h2, h3, h4⟩
            rw [b4, q_eq (by omega) (by omega)] at h4
            exact h4.symm
      have bz : ∀ i, i < 32 → (bt z i = true ↔ bt y i = true ∨ (i < gh.1 0 ∧ bt y j = true ∧ R 13 i = nI 0 ∧ parS n R j = nI i) ∨ (i = j ∧ R 13 j = nI 0 ∧ R 17 j ≠ NO ∧ bT = true)) := by
        intro i hi
        rcases g2 with ⟨rfl, h1⟩ | ⟨rfl, h1⟩
        · rw [b_or, Bool.or_eq_true, bw i hi]
          constructor
          · rintro (h | h)
            · exact Or.inl h
            · exact Or.inr (Or.inl h)
          · rintro (h | h | h)
            · exact Or.inl h
            · exact Or.inr h
            · exact absurd h.2 h1
        · rw [b_or, b_or, Bool.or_eq_true, Bool.or_eq_true, bw i hi, b_shl1 j (by omega) i hi, decide_eq_true_iff]
          constructor
          · rintro ((h | h) | h)
            · exact Or.inl h
            · exact Or.inr (Or.inl h)
            · exact Or.inr (Or.inr ⟨h, h1⟩)
          · rintro (h | h | h)
            · exact Or.inl (Or.inl h)
            · exact Or.inl (Or.inr h)
            · exact Or.inr h.1
      refine ⟨fun i hi h => (bz i hi).mpr (Or.inl (i1 i hi h)), fun Y hY h0 i hi h => ?_, fun a ha h0 b hb h13 hp => ?_, fun b hb hex => ?_, fun i hi hle => ?_⟩
      · rcases (bz i hi).mp h with h | h | h
        · exact i2 Y hY h0 i hi h
        · exact hY j i hj h.1 (i2 Y hY h0 j (by omega) h.2.1) ⟨h.2.2.1, Or.inr h.2.2.2⟩
        · obtain ⟨rfl, h1, h2, h3⟩ := h
          obtain ⟨a, a1, a2, a3⟩ := t2.mp h3
          exact hY a i a1 hj (h0 a (by omega) a2) ⟨h1, Or.inl ⟨by rw [a3]; exact h2, a3.symm⟩⟩
      · by_cases e : a = j
        · subst e
          exact (bz b (by omega)).mpr (Or.inr (Or.inl ⟨hb, i1 a (by omega) h0, h13, hp⟩))
        · exact (bz b (by omega)).mpr (Or.inl (i3 a (by omega) h0 b hb h13 hp))
      · by_cases e : b = j
        · subst e
          obtain ⟨a, a1, a2, a3, a4, a5⟩ := hex
          exact (bz b (by omega)).mpr (Or.inr (Or.inr ⟨rfl, a3, by rw [a5]; exact a4, t2.mpr ⟨a, a1, a2, a5.symm⟩⟩))
        · exact (bz b (by omega)).mpr (Or.inl (i4 b (by omega) hex))
      · cases hz : bt z i with
        | false => rfl
        | true =>
          exfalso
          rcases (bz i hi).mp hz with h | h | h
          · rw [i5 i hi hle] at h; cases h
          · omega
          · omega
    · rintro T x -
      show f12_groupOf_16_s R t T x x0 (nI (gh.1 0)) = _
      unfold f12_groupOf_16_s
      rw [if_neg (by rw [hR.cnt.2.2.2.2.1, q_lt (by omega) (by omega)]; omega)]
  have hx0 : bt ((1 : Int32) <<< (nI s &&& 31)) s = true := by rw [b_shl1 s (by omega) s (by omega)]; simp
  refine rv_ux (z := (fun _ _ => none)) (F := f12_groupOf_6_s R) (fun t (_ : Nat) (q : Int32 × Int32) => t q.1 q.2) 30 (fun k q => bt q.1 s = true ∧ (∀ y : Nat → Prop, y s → clo n (gh.1 0) R y → ∀ i, i < 32 → bt q.1 i = true → y i) ∧ (∀ i, i < 32 → gh.1 0 ≤ i → bt q.1 i = false) ∧ (q.2 = q.1 → clo n (gh.1 0) R (fun i => bt q.1 i = true)) ∧ (q.2 ≠ q.1 → k + 1 ≤ cn (bt q.1) 0 (gh.1 0))) (fun r => ∃ x, r = some x ∧ isG n (gh.1 0) R s x) ?_ ?_ rv_FU 0 ((1 : Int32) <<< (nI s &&& 31), 0) (Nat.zero_le _) (FU_lt (by omega)) ⟨hx0, ?_, ?_, fun z => ?_, fun _ => ?_⟩
  · rintro t k ⟨x, bf⟩ hk ⟨i1, i2, i3, i4, i5⟩
    have i1 : bt x s = true := i1
    have i3 : ∀ i, i < 32 → gh.1 0 ≤ i → bt x i = false := i3
    have i2 : ∀ y : Nat → Prop, y s → clo n (gh.1 0) R y → ∀ i, i < 32 → bt x i = true → y i := i2
    have i4 : bf = x → clo n (gh.1 0) R (fun i => bt x i = true) := i4
    have i5 : bf ≠ x → k + 1 ≤ cn (bt x) 0 (gh.1 0) := i5
    show (∃ x', f12_groupOf_6_s R t x bf = some x' ∧ _) ∨ ∃ a' : Int32 × Int32, _ ∧ f12_groupOf_6_s R t x bf = _
    unfold f12_groupOf_6_s
    by_cases e : bf = x
    · left
      rw [if_neg (fun z => z e)]
      exact ⟨x, rfl, i1, i4 e, i2, i3⟩
    · right
      have i5 := i5 e
      rw [if_pos e]
      obtain ⟨x', x1, x2, x3, x4, x5⟩ := round t x i3
      rw [x1]
      refine ⟨(x', x), ⟨x2 s (by omega) i1, fun y hy hcl i hi z => x3 y hcl (fun i hi z => i2 y hy hcl i hi z) i hi z, x5, fun z a b ha hb hya hd => ?_, fun z => ?_⟩, rfl⟩
      · have z : x = x' := z
        have hya : bt x' a = true := hya
        rw [← z] at hya
        exact x4 a ha hya b hb hd
      · have z : x ≠ x' := z
        have := cn_bt hc x2 x5 (fun y => z y.symm)
        show k + 1 + 1 ≤ cn (bt x') 0 (gh.1 0)
        omega
  · rintro t ⟨x, bf⟩ ⟨i1, i2, i3, i4, i5⟩
    have i4 : bf = x → clo n (gh.1 0) R (fun i => bt x i = true) := i4
    have i5 : bf ≠ x → 30 + 1 ≤ cn (bt x) 0 (gh.1 0) := i5
    have e : bf = x := by
      apply Classical.byContradiction
      intro z
      have := i5 z
      have := cn_le (bt x) (gh.1 0) 0
      omega
    refine ⟨x, ?_, i1, i4 e, i2, i3⟩
    show f12_groupOf_6_s R t x bf = _
    unfold f12_groupOf_6_s
    rw [if_neg (fun z => z e)]
  · intro y hy _ i hi z
    have z : bt ((1 : Int32) <<< (nI s &&& 31)) i = true := z
    rw [b_shl1 s (by omega) i hi] at z
    rw [of_decide_eq_true z]; exact hy
  · intro i hi hle
    show bt ((1 : Int32) <<< (nI s &&& 31)) i = false
    rw [b_shl1 s (by omega) i hi]
    exact decide_eq_false (by omega)
  · exfalso
    have z : (0 : Int32) = (1 : Int32) <<< (nI s &&& 31) := z
    rw [← z, b_0] at hx0; cases hx0
  · exact cn_pos (p := bt ((1 : Int32) <<< (nI s &&& 31))) (j := s) (Nat.zero_le _) (by omega) hx0
theorem h_group : ∀ gh MC MR, Rel gh MC MR → ∀ p1, rS_group Rel gh MC MR p1 := fun gh C R h p1 => by
  obtain ⟨n, hR⟩ := h
  have hc := hR.ch20
  unfold rS_group
  rcases hR.dchange p1 with ⟨s, hs, rfl, e1, e2⟩ | ⟨e1, e2⟩
  · have hR1 : Rn n gh C (rv_u R 66 0 0) := Rn_66 hR
    obtain ⟨x, x1, x2⟩ := hR1.groupC hs
    obtain ⟨y, y1, y2⟩ := hR1.groupR hs
    have := isG_uniq y2 x2
    subst this
    obtain ⟨v, v1, v2, v3⟩ := (hR.chg s hs).2.2.2.1
    have eC : f11_group gh C (nI s) = if ¬ nI v = 0 then some (.inr 3) else some (.inl y) := by
      unfold f11_group
      rw [e1]; simp only [x1_inl]
      rw [if_pos (is1 hs hc), v2, x1, o1_some]
    have eR : f12_group R (nI s) = if nI v = 0 then f12_group_27 R (nI s) 0 else f12_group_27 R (nI s) 2 := by
      unfold f12_group
      rw [e2, o1_some, if_neg (by simp), if_pos (q_inb (show s < 20 by omega) (by omega)), q_nc (by omega), v3]
    by_cases c : nI v = 0
    · left
      rw [if_neg (fun z => z c)] at eC
      rw [if_pos c] at eR
      refine ⟨y, rv_u R 66 0 0, eC, ?_, mu_same _ _ _ _, ⟨n, Rn_66 hR⟩⟩
      rw [eR]
      show rv_o1 (f12_groupOf (rv_u R 66 0 0) (nI s)) (fun r5 => some (r5, rv_u R 66 0 0)) = _
      rw [y1]; rfl
    · right; right
      rw [if_pos c] at eC
      rw [if_neg c] at eR
      exact ⟨rv_u R 66 0 2, 0, eC, by rw [eR]; rfl, mu_same _ _ _ _, ⟨n, Rn_66 hR⟩⟩
  · right; left
    refine ⟨rv_u R 66 0 1, 0, ?_, ?_, mu_same _ _ _ _, ⟨n, Rn_66 hR⟩⟩
    · unfold f11_group
      rw [e1]; rfl
    · unfold f12_group
      rw [e2]; rfl

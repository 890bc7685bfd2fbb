/-! the fixes chosen; those that touch -/
theorem is5 {gh : rC_gh} {u : Nat} (hu : u < gh.1 2) (hc : gh.1 2 ≤ 40) : rC_is gh 5 (400 + u) = true := by
  unfold rC_is rC_dm rC_kd
  rw [if_neg (by omega), if_neg (by omega), if_neg (by omega), if_neg (by omega), if_neg (by omega), if_pos (by omega), if_neg (by omega), if_neg (by omega), if_neg (by omega), if_neg (by omega), if_neg (by omega), if_pos (by omega)]
  simp; omega
theorem is85 {gh : rC_gh} {u : Nat} (hu : u < gh.1 2) (hc : gh.1 2 ≤ 40) : rC_is gh 8 (500 + u) = true := by
  unfold rC_is rC_dm rC_kd
  rw [if_neg (by omega), if_neg (by omega), if_neg (by omega), if_neg (by omega), if_neg (by omega), if_neg (by omega), if_pos (by omega), if_neg (by omega), if_neg (by omega), if_neg (by omega), if_neg (by omega), if_neg (by omega), if_neg (by omega), if_pos (by omega)]
  simp; omega
def ff (R : rv_Mem) (u : Nat) : Nat := (R 37 u).toNatClampNeg
def fa (R : rv_Mem) (u : Nat) : Nat := (R 38 u).toNatClampNeg
def fk (R : rv_Mem) (u : Nat) : Nat := (R 39 u).toNatClampNeg
theorem Rn.fnd1 {n : Nat} {gh : rC_gh} {C R : rv_Mem} (hR : Rn n gh C R) {u : Nat} (hu : u < gh.1 2) : R 37 u = nI (ff R u) ∧ R 38 u = nI (fa R u) ∧ R 39 u = nI (fk R u) ∧ C (500 + u) 2 = nI (ff R u) ∧ C (500 + u) 3 = nI (fa R u) ∧ C (500 + u) 4 = nI (fk R u) ∧ C (400 + u) 1 = R 40 u ∧ ff R u < 4 ∧ fa R u + fk R u ≤ 10 ∧ (R 40 u = NO ∨ ∃ v, v < 400 ∧ R 40 u = nI v) := by
  obtain ⟨q, s, f, a, k, d1, d2, d3, d4, d5, d6, d7, d8, d9, d10, d11, d12, d13, d14, d15, d16, d17⟩ := hR.fnd u hu
  have hn := hR.n80
  have hn2 := hR.cnt.1.1
  obtain ⟨z, z1, -, z3, -⟩ := hR.fil _ (Or.inl (mAt_lt (n := n) (r5 := R 5) (r6 := R 6) (h := nI q) (s := nI s) (by omega) (by omega))) f d3
  rw [z3, q_nc (by omega)] at d15
  have e1 : ff R u = f := by unfold ff; rw [d9, q_nc (by omega)]
  have e2 : fa R u = a := by unfold fa; rw [d11, q_nc (by omega)]
  have e3 : fk R u = k := by unfold fk; rw [d13, q_nc (by omega)]
  rw [e1, e2, e3]
  exact ⟨d9, d11, d13, d8, d10, d12, d16, d3, by omega, d17⟩
theorem Rn.vis {n : Nat} {gh : rC_gh} {C R : rv_Mem} (hR : Rn n gh C R) {h c k u : Nat} (hk : 1 ≤ k) (hk2 : k ≤ 80) (hc : c < n) (hh : h < gh.1 0) (h14 : R 14 h = nI k) (h5 : R 5 c = nI h) (h6 : R 6 c = nI (k - 1)) (hcur : curS n R h = nI c) (hu : u < gh.1 2) : (C (400 + u) 0 = nI c) = (visq R h u = true) := by
  have hc20 := hR.ch20
  have hn := hR.n80
  obtain ⟨q, s, f, a, k', d1, d2, d3, d4, d5, d6, d7, d8, d9, d10, d11, d12, d13, d14, d15, d16, d17⟩ := hR.fnd u hu
  obtain ⟨kq, q1, q2, q3, q4, q5⟩ := hR.sets d1
  rw [q4, q_nc (by omega)] at d2
  obtain ⟨c', a1, a2, a3, a4, a5, a6⟩ := hR.at d1 q2 q4 d2
  have e14 : R 14 h - 1 = nI (k - 1) := by rw [h14, q_1, q_sub hk]
  unfold visq
  rw [d14, a6, d5, d7, e14, Bool.and_eq_true, decide_eq_true_iff, decide_eq_true_iff, q_eq (by omega) (by omega), q_eq (by omega) (by omega), q_eq (by omega) (by omega)]
  apply propext
  constructor
  · rintro rfl
    rw [h5, q_eq (by omega) (by omega)] at a4
    rw [h6, q_eq (by omega) (by omega)] at a5
    exact ⟨a4.symm, a5.symm⟩
  · rintro ⟨rfl, rfl⟩
    unfold curS at hcur
    rw [e14, a6, q_eq (by omega) (by omega)] at hcur
    exact hcur
def chs (R : rv_Mem) (h : Nat) (x : Int32) (u : Nat) : Bool := visq R h u && (decide (pos R h u < 31) && bt x (pos R h u))
def fOK (R : rv_Mem) (h F : Nat) (x : Int32) : Prop := bt x 31 = false ∧ ∀ t, t < 31 → bt x t = true → t < pos R h F
theorem s11_choose {n : Nat} {gh : rC_gh} {C R : rv_Mem} (hR : Rn n gh C R) {h c k : Nat} {x : Int32} (hk : 1 ≤ k) (hk2 : k ≤ 80) (hc : c < n) (hh : h < gh.1 0) (h14 : R 14 h = nI k) (h5 : R 5 c = nI h) (h6 : R 6 c = nI (k - 1)) (hcur : curS n R h = nI c) : (f11_chooseFixes gh C (nI c) x = some (.inr 2) ∧ ¬ fOK R h (gh.1 2) x) ∨ ∃ L, f11_chooseFixes gh C (nI c) x = some (.inl L) ∧ fOK R h (gh.1 2) x ∧ ∀ u, u < 40 → (bl L u = true ↔ u < gh.1 2 ∧ chs R h x u = true) := by
  have hF := hR.cnt.2.2.2.2.2.2.2.1
  unfold f11_chooseFixes
  by_cases c0 : x < 0
  · left
    rw [if_pos c0]
    rw [neg_bt] at c0
    exact ⟨rfl, fun z => by rw [z.1] at c0; cases c0⟩
  · rw [if_neg c0]
    have b31 : bt x 31 = false := by
      rw [neg_bt] at c0
      cases hb : bt x 31 with
      | false => rfl
      | true => exact absurd hb c0
    refine rv_ux (z := (fun _ _ _ _ _ => none)) (F := f11_chooseFixes_23_s gh C) (fun T u (L : Int64) => T (nI c) x L (nI (pos R h u)) (nI u)) (gh.1 2) (fun u L => ∀ v, v < 40 → (bl L v = true ↔ v < u ∧ chs R h x v = true)) (fun r => (r = some (.inr 2) ∧ ¬ fOK R h (gh.1 2) x) ∨ ∃ L, r = some (.inl L) ∧ fOK R h (gh.1 2) x ∧ ∀ u, u < 40 → (bl L u = true ↔ u < gh.1 2 ∧ chs R h x u = true)) ?_ ?_ rv_FU 0 (0 : Int64) (Nat.zero_le _) (FU_lt (by omega)) (fun v hv => by rw [bl_0]; exact ⟨fun z => (by cases z), fun z => absurd z.1 (Nat.not_lt_zero _)⟩)
    · intro T u L hu hI
      right
      have pl : pos R h u ≤ u := by unfold pos; exact cn_le _ _ _
      have step : f11_chooseFixes_23_s gh C T (nI c) x L (nI (pos R h u)) (nI u) = T (nI c) x (if chs R h x u = true then L ||| ((1 : Int64) <<< ((nI u).toInt64 &&& 63)) else L) (nI (pos R h (u + 1))) (nI (u + 1)) := by
        unfold f11_chooseFixes_23_s f11_chooseFixes_77 f11_chooseFixes_80 chs
        have hv := hR.vis hk hk2 hc hh h14 h5 h6 hcur hu
        rw [if_pos (by rw [q_lt (by omega) (by omega)]; exact hu), if_pos (q_inb hu (by omega)), q_nc (by omega), if_pos (is5 hu hF), pos_s, q_succ, q_succ]
        cases hvv : visq R h u with
        | false =>
          rw [hvv] at hv
          rw [if_neg (by rw [hv]; simp), Bool.false_and, if_neg (by simp), if_neg (by simp)]; rfl
        | true =>
          rw [hvv] at hv
          rw [if_pos (by rw [hv]), if_pos rfl, Bool.true_and]
          by_cases c1 : pos R h u < 31
          · rw [if_pos (show nI (pos R h u) < 31 by rw [q_31, q_lt (by omega) (by omega)]; exact c1), s11_isIn (by omega), o1_some, decide_eq_true c1, Bool.true_and]
            cases bt x (pos R h u) <;> rfl
          · rw [if_neg (show ¬ nI (pos R h u) < 31 by rw [q_31, q_lt (by omega) (by omega)]; exact c1), decide_eq_false c1, Bool.false_and, if_neg (by simp)]
      refine ⟨_, fun v hv => ?_, step⟩
      cases hcc : chs R h x u with
      | true =>
        rw [if_pos rfl, bl_or, Bool.or_eq_true, hI v hv, bl_shl1 u (by omega) v hv, decide_eq_true_iff]
        constructor
        · rintro (⟨z1, z2⟩ | z)
          · exact ⟨by omega, z2⟩
          · subst z; exact ⟨by omega, hcc⟩
        · rintro ⟨z1, z2⟩
          by_cases e : v = u
          · exact Or.inr e
          · exact Or.inl ⟨by omega, z2⟩
      | false =>
        rw [if_neg (by simp), hI v hv]
        constructor
        · rintro ⟨z1, z2⟩; exact ⟨by omega, z2⟩
        · rintro ⟨z1, z2⟩
          by_cases e : v = u
          · subst e; rw [hcc] at z2; cases z2
          · exact ⟨by omega, z2⟩
    · intro T L hI
      have pl : pos R h (gh.1 2) ≤ gh.1 2 := by unfold pos; exact cn_le _ _ _
      show (f11_chooseFixes_23_s gh C T (nI c) x L (nI (pos R h (gh.1 2))) (nI (gh.1 2)) = _ ∧ _) ∨ ∃ L', f11_chooseFixes_23_s gh C T (nI c) x L (nI (pos R h (gh.1 2))) (nI (gh.1 2)) = _ ∧ _
      unfold f11_chooseFixes_23_s f11_chooseFixes_111
      rw [if_neg (show ¬ nI (gh.1 2) < nI (gh.1 2) by rw [q_lt (by omega) (by omega)]; omega)]
      by_cases c1 : pos R h (gh.1 2) < 31
      · rw [if_pos (show nI (pos R h (gh.1 2)) < 31 by rw [q_31, q_lt (by omega) (by omega)]; exact c1)]
        have sz := sshr_0 (x := x) c1
        by_cases c2 : x >>> (nI (pos R h (gh.1 2)) &&& 31) = 0
        · right
          rw [if_neg (fun z => z c2)]
          refine ⟨L, rfl, ⟨b31, fun t ht hb => ?_⟩, hI⟩
          apply Classical.byContradiction
          intro z
          rw [sz.mp c2 t (by omega) (by omega)] at hb; cases hb
        · left
          rw [if_pos c2]
          refine ⟨rfl, fun z => c2 (sz.mpr (fun i h1 h2 => ?_))⟩
          cases hb : bt x i with
          | false => rfl
          | true =>
            exfalso
            by_cases e : i = 31
            · subst e; rw [b31] at hb; cases hb
            · have := z.2 i (by omega) hb; omega
      · right
        rw [if_neg (show ¬ nI (pos R h (gh.1 2)) < 31 by rw [q_31, q_lt (by omega) (by omega)]; exact c1)]
        exact ⟨L, rfl, ⟨b31, fun t ht _ => by omega⟩, hI⟩
def tch (R : rv_Mem) (u v : Nat) : Bool := decide (ff R u = ff R v) && (decide (fa R u ≤ fa R v + fk R v) && decide (fa R v ≤ fa R u + fk R u))
def someT (R : rv_Mem) (h F : Nat) (x : Int32) : Prop := ∃ u v, v < u ∧ u < F ∧ chs R h x u = true ∧ chs R h x v = true ∧ tch R u v = true
theorem s11_touching {n : Nat} {gh : rC_gh} {C R : rv_Mem} (hR : Rn n gh C R) {h : Nat} {x : Int32} {L : Int64} (hL : ∀ u, u < 40 → (bl L u = true ↔ u < gh.1 2 ∧ chs R h x u = true)) : ∃ b, f11_isSomeTouching gh C L = some b ∧ (b = true ↔ someT R h (gh.1 2) x) := by
  have hF := hR.cnt.2.2.2.2.2.2.2.1
  have inner : ∀ (t : Int64 → Int32 → Option Bool) u, u < gh.1 2 → (f11_isSomeTouching_16 gh C t rv_FU L (nI u) 0 = some true ∧ ∃ v, v < u ∧ chs R h x u = true ∧ chs R h x v = true ∧ tch R u v = true) ∨ (f11_isSomeTouching_16 gh C t rv_FU L (nI u) 0 = t L (nI (u + 1)) ∧ ∀ v, v < u → chs R h x u = true → chs R h x v = true → tch R u v = false) := by
    intro t u hu
    refine rv_ux (z := (fun _ _ _ => none)) (F := f11_isSomeTouching_16_s gh C t) (fun T v (_ : Unit) => T L (nI u) (nI v)) u (fun v _ => ∀ v', v' < v → chs R h x u = true → chs R h x v' = true → tch R u v' = false) (fun r => (r = some true ∧ ∃ v, v < u ∧ chs R h x u = true ∧ chs R h x v = true ∧ tch R u v = true) ∨ (r = t L (nI (u + 1)) ∧ ∀ v, v < u → chs R h x u = true → chs R h x v = true → tch R u v = false)) ?_ ?_ rv_FU 0 () (Nat.zero_le _) (FU_lt (by omega)) (fun v hv => absurd hv (Nat.not_lt_zero _))
    · intro T v _ hv hI
      have step : f11_isSomeTouching_16_s gh C t T L (nI u) (nI v) = if chs R h x u = true ∧ chs R h x v = true ∧ tch R u v = true then some true else T L (nI u) (nI (v + 1)) := by
        unfold f11_isSomeTouching_16_s f11_isSomeTouching_42 f11_isSomeTouching_86
        rw [if_pos (by rw [q_lt (by omega) (by omega)]; exact hv), q_succ]
        by_cases c : bl L u = true ∧ bl L v = true
        · rw [if_pos (by rw [bl_test2 (by omega) (by omega)]; exact c), if_pos rfl, if_pos (q_inb hu (by omega)), q_nc (by omega), if_pos (is5 hu hF), if_pos (q_inb (show v < gh.1 2 by omega) (by omega)), q_nc (by omega), if_pos (is5 (show v < gh.1 2 by omega) hF), show 400 + u + 100 = 500 + u by omega, show 400 + v + 100 = 500 + v by omega, if_pos (is85 hu hF)]
          have c1 := (hL u (by omega)).mp c.1
          have c2 := (hL v (by omega)).mp c.2
          obtain ⟨-, -, -, a4, a5, a6, -, a8, a9, -⟩ := hR.fnd1 hu
          obtain ⟨-, -, -, b4, b5, b6, -, b8, b9, -⟩ := hR.fnd1 (show v < gh.1 2 by omega)
          have et : f7_touches gh C (500 + u) (500 + v) = some (tch R u v) := by
            unfold f7_touches tch
            rw [if_pos (is85 hu hF), if_pos (is85 (show v < gh.1 2 by omega) hF), a4, b4, a5, b5, a6, b6, q_add, q_add]
            by_cases d1 : ff R u = ff R v
            · rw [if_pos (show nI (ff R u) = nI (ff R v) by rw [d1]), decide_eq_true d1]
              by_cases d2 : fa R u ≤ fa R v + fk R v
              · rw [if_pos (show nI (fa R u) ≤ nI (fa R v + fk R v) by rw [q_le (by omega) (by omega)]; exact d2), decide_eq_true d2]
                by_cases d3 : fa R v ≤ fa R u + fk R u
                · rw [if_pos (show nI (fa R v) ≤ nI (fa R u + fk R u) by rw [q_le (by omega) (by omega)]; exact d3), decide_eq_true d3]; rfl
                · rw [if_neg (show ¬ nI (fa R v) ≤ nI (fa R u + fk R u) by rw [q_le (by omega) (by omega)]; exact d3), decide_eq_false d3]; rfl
              · rw [if_neg (show ¬ nI (fa R u) ≤ nI (fa R v + fk R v) by rw [q_le (by omega) (by omega)]; exact d2), decide_eq_false d2]; rfl
            · rw [if_neg (show ¬ nI (ff R u) = nI (ff R v) by rw [q_eq (by omega) (by omega)]; exact d1), decide_eq_false d1]; rfl
          rw [et, o1_some]
          by_cases d : tch R u v = true
          · rw [if_pos d, if_pos ⟨c1.2, c2.2, d⟩]
          · rw [if_neg d, if_neg (fun z => d z.2.2)]
        · rw [if_neg (by rw [bl_test2 (by omega) (by omega)]; exact c), if_neg (by simp), if_neg (fun z => c ⟨(hL u (by omega)).mpr ⟨hu, z.1⟩, (hL v (by omega)).mpr ⟨by omega, z.2.1⟩⟩)]
      show ((f11_isSomeTouching_16_s gh C t T L (nI u) (nI v) = some true ∧ _) ∨ (f11_isSomeTouching_16_s gh C t T L (nI u) (nI v) = t L (nI (u + 1)) ∧ _)) ∨ ∃ a' : Unit, _ ∧ f11_isSomeTouching_16_s gh C t T L (nI u) (nI v) = _
      rw [step]
      by_cases c : chs R h x u = true ∧ chs R h x v = true ∧ tch R u v = true
      · left; left
        rw [if_pos c]
        exact ⟨rfl, v, hv, c⟩
      · right
        rw [if_neg c]
        refine ⟨(), fun v' hv' z1 z2 => ?_, rfl⟩
        by_cases e : v' = v
        · subst e
          cases hh : tch R u v' with
          | false => rfl
          | true => exact absurd ⟨z1, z2, hh⟩ c
        · exact hI v' (by omega) z1 z2
    · intro T _ hI
      right
      refine ⟨?_, hI⟩
      show f11_isSomeTouching_16_s gh C t T L (nI u) (nI u) = _
      unfold f11_isSomeTouching_16_s
      rw [if_neg (by rw [q_lt (by omega) (by omega)]; omega), q_succ]
  refine rv_ux (z := (fun _ _ => none)) (F := f11_isSomeTouching_2_s gh C) (fun T u (_ : Unit) => T L (nI u)) (gh.1 2) (fun u _ => ∀ u', u' < u → ∀ v, v < u' → chs R h x u' = true → chs R h x v = true → tch R u' v = false) (fun r => ∃ b, r = some b ∧ (b = true ↔ someT R h (gh.1 2) x)) ?_ ?_ rv_FU 0 () (Nat.zero_le _) (FU_lt (by omega)) (fun v hv => absurd hv (Nat.not_lt_zero _))
  · intro T u _ hu hI
    show (∃ b, f11_isSomeTouching_2_s gh C T L (nI u) = some b ∧ _) ∨ ∃ a' : Unit, _ ∧ f11_isSomeTouching_2_s gh C T L (nI u) = _
    unfold f11_isSomeTouching_2_s
    rw [if_pos (by rw [q_lt (by omega) (by omega)]; exact hu)]
    rcases inner T u hu with ⟨e1, v, e2, e3, e4, e5⟩ | ⟨e1, e2⟩
    · left
      exact ⟨true, e1, fun _ => ⟨u, v, e2, hu, e3, e4, e5⟩, fun _ => rfl⟩
    · right
      refine ⟨(), fun u' hu' v hv z1 z2 => ?_, e1⟩
      by_cases e : u' = u
      · subst e; exact e2 v hv z1 z2
      · exact hI u' (by omega) v hv z1 z2
  · intro T _ hI
    refine ⟨false, ?_, fun z => (by cases z), fun ⟨u, v, h1, h2, h3, h4, h5⟩ => ?_⟩
    · show f11_isSomeTouching_2_s gh C T L (nI (gh.1 2)) = _
      unfold f11_isSomeTouching_2_s
      rw [if_neg (by rw [q_lt (by omega) (by omega)]; omega)]
    · rw [hI u h2 v h1 h3 h4] at h5; cases h5

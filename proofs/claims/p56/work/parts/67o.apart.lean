/-! fixes apart, and the fix at a place, both sides -/
def bad2 (R : rv_Mem) (h F : Nat) (x : Int32) (t t' : Nat) : Prop := ∃ u v, u < F ∧ v < F ∧ visq R h u = true ∧ visq R h v = true ∧ pos R h u = t ∧ pos R h v = t' ∧ bt x t = true ∧ bt x t' = true ∧ tch R u v = true
theorem someT_bad {R : rv_Mem} {h F : Nat} {x : Int32} : someT R h F x ↔ ∃ t t', t < 31 ∧ t' < t ∧ bad2 R h F x t t' := by
  constructor
  · rintro ⟨u, v, h1, h2, h3, h4, h5⟩
    unfold chs at h3 h4
    rw [Bool.and_eq_true, Bool.and_eq_true, decide_eq_true_iff] at h3 h4
    exact ⟨pos R h u, pos R h v, h3.2.1, pos_lt h1 h4.1, u, v, h2, by omega, h3.1, h4.1, rfl, rfl, h3.2.2, h4.2.2, h5⟩
  · rintro ⟨t, t', h1, h2, u, v, a1, a2, a3, a4, a5, a6, a7, a8, a9⟩
    subst a5 a6
    have huv : v < u := by
      apply Classical.byContradiction
      intro z
      by_cases e : u = v
      · subst e; omega
      · have := pos_lt (show u < v by omega) a3; omega
    refine ⟨u, v, huv, a1, ?_, ?_, a9⟩
    · unfold chs; rw [a3, decide_eq_true h1, a7]; rfl
    · unfold chs; rw [a4, decide_eq_true (show pos R h v < 31 by omega), a8]; rfl
theorem s12_areApart {R : rv_Mem} {F u v : Nat} (hf : ∀ u, u < F → R 37 u = nI (ff R u) ∧ R 38 u = nI (fa R u) ∧ R 39 u = nI (fk R u) ∧ ff R u < 4 ∧ fa R u + fk R u ≤ 10) (hF : F ≤ 40) (hu : u < F) (hv : v < F) : f12_areApart R (nI u) (nI v) = some (!tch R u v) := by
  obtain ⟨a1, a2, a3, a4, a5⟩ := hf u hu
  obtain ⟨b1, b2, b3, b4, b5⟩ := hf v hv
  unfold f12_areApart f12_areApart_48 f12_areApart_49 f12_areApart_69 tch
  have u40 : rv_in (nI u) 40 = true := q_inb (by omega) (by omega)
  have v40 : rv_in (nI v) 40 = true := q_inb (by omega) (by omega)
  simp only [u40, v40, if_true, q_nc (show u < 2147483648 by omega), q_nc (show v < 2147483648 by omega), a1, a2, a3, b1, b2, b3, q_add]
  have e1 : (nI (ff R u) = nI (ff R v)) = (ff R u = ff R v) := q_eq (by omega) (by omega)
  have e2 : (nI (fa R u) ≤ nI (fa R v + fk R v)) = (fa R u ≤ fa R v + fk R v) := q_le (by omega) (by omega)
  have e3 : (nI (fa R v) ≤ nI (fa R u + fk R u)) = (fa R v ≤ fa R u + fk R u) := q_le (by omega) (by omega)
  simp only [e1, e2, e3]
  by_cases d1 : ff R u = ff R v <;> by_cases d2 : fa R u ≤ fa R v + fk R v <;> by_cases d3 : fa R v ≤ fa R u + fk R u <;> simp [d1, d2, d3]
theorem s12_allApart {R : rv_Mem} {h F : Nat} {x : Int32} (hf : ∀ u, u < F → R 37 u = nI (ff R u) ∧ R 38 u = nI (fa R u) ∧ R 39 u = nI (fk R u) ∧ ff R u < 4 ∧ fa R u + fk R u ≤ 10) (hh : h < 20) (hF : F ≤ 40) (h34 : R 34 0 = nI F) (hOK : fOK R h F x) : ∃ b, f12_areAllApart R (nI h) x = some b ∧ (b = true ↔ ¬ someT R h F x) := by
  have inner : ∀ (T : Int32 → Int32 → Bool → Int32 → Option Bool) b0 t, t < 31 → ∃ b, f12_areAllApart_15 R T rv_FU (nI h) x b0 (nI t) 0 = T (nI h) x b (nI (t + 1)) ∧ (b = true ↔ b0 = true ∧ ∀ t', t' < t → ¬ bad2 R h F x t t') := by
    intro T b0 t ht
    have L := rv_ui (z := (fun _ _ _ _ _ => none)) (F := f12_areAllApart_15_s R T) (fun S t' b => S (nI h) x b (nI t) (nI t')) t (fun t' b => b = true ↔ b0 = true ∧ ∀ t'', t'' < t' → ¬ bad2 R h F x t t'') (fun b => T (nI h) x b (nI (t + 1))) ?_ ?_ rv_FU 0 b0 (Nat.zero_le _) (FU_lt (by omega)) ⟨fun z => ⟨z, fun v hv => absurd hv (Nat.not_lt_zero _)⟩, fun z => z.1⟩
    · obtain ⟨b, x1, x2⟩ := L
      exact ⟨b, x2, x1⟩
    · intro S t' b ht' hI
      have fin : ∀ b', (b' = true ↔ b = true ∧ ¬ bad2 R h F x t t') → (b' = true ↔ b0 = true ∧ ∀ t'', t'' < t' + 1 → ¬ bad2 R h F x t t'') := fun b' hb' => by
        rw [hb', hI]
        constructor
        · rintro ⟨⟨z1, z2⟩, z3⟩
          refine ⟨z1, fun t'' h2 => ?_⟩
          by_cases e : t'' = t'
          · subst e; exact z3
          · exact z2 t'' (by omega)
        · rintro ⟨z1, z2⟩
          exact ⟨⟨z1, fun t'' h2 => z2 t'' (by omega)⟩, z2 t' (by omega)⟩
      show ∃ b', _ ∧ f12_areAllApart_15_s R T S (nI h) x b (nI t) (nI t') = S (nI h) x b' (nI t) (nI (t' + 1))
      unfold f12_areAllApart_15_s f12_areAllApart_67 f12_areAllApart_71 f12_areAllApart_72
      rw [if_pos (show nI t' < nI t by rw [q_lt (by omega) (by omega)]; exact ht'), q_succ]
      cases b with
      | false => exact ⟨false, fin false ⟨fun z => (by cases z), fun z => (by cases z.1)⟩, by rw [if_neg (by simp)]⟩
      | true =>
        rw [if_pos rfl, s12_isTaken ht, o1_some]
        cases hb : bt x t with
        | false =>
          refine ⟨true, fin true ⟨fun _ => ⟨rfl, fun ⟨u, v, _, _, _, _, _, _, z, _⟩ => by rw [hb] at z; cases z⟩, fun _ => rfl⟩, by rw [if_neg (by simp)]⟩
        | true =>
          rw [if_pos rfl, s12_isTaken (show t' < 31 by omega), o1_some]
          cases hb' : bt x t' with
          | false =>
            refine ⟨true, fin true ⟨fun _ => ⟨rfl, fun ⟨u, v, _, _, _, _, _, _, _, z, _⟩ => by rw [hb'] at z; cases z⟩, fun _ => rfl⟩, by rw [if_neg (by simp)]⟩
          | true =>
            rw [if_pos rfl]
            rcases s12_findingAt (R := R) (h := h) (F := F) (t := t) hh hF h34 (by omega) with ⟨u, u1, u2, u3, u4⟩ | ⟨u1, u2⟩
            · rcases s12_findingAt (R := R) (h := h) (F := F) (t := t') hh hF h34 (by omega) with ⟨v, v1, v2, v3, v4⟩ | ⟨v1, v2⟩
              · rw [u4, o1_some, v4, o1_some, s12_areApart hf hF u1 v1, o1_some]
                refine ⟨!tch R u v, fin _ ⟨fun z => ⟨rfl, fun ⟨u', v', a1, a2, a3, a4, a5, a6, a7, a8, a9⟩ => ?_⟩, fun z => ?_⟩, ?_⟩
                · have eu := pos_inj a3 u2 (by rw [a5, u3])
                  have ev := pos_inj a4 v2 (by rw [a6, v3])
                  subst eu ev
                  rw [a9] at z; cases z
                · cases ht : tch R u v with
                  | false => rfl
                  | true => exact absurd ⟨u, v, u1, v1, u2, v2, u3, v3, hb, hb', ht⟩ z.2
                · cases tch R u v <;> rfl
              · obtain ⟨v, w1, w2, w3⟩ := pos_ex F t' (hOK.2 t' (by omega) hb')
                exact absurd w3 (v1 v w1 w2)
            · obtain ⟨v, w1, w2, w3⟩ := pos_ex F t (hOK.2 t (by omega) hb)
              exact absurd w3 (u1 v w1 w2)
    · intro S b _
      show f12_areAllApart_15_s R T S (nI h) x b (nI t) (nI t) = _
      unfold f12_areAllApart_15_s
      rw [if_neg (show ¬ nI t < nI t by rw [q_lt (by omega) (by omega)]; omega), q_succ]
  have L := rv_ui (z := (fun _ _ _ _ => none)) (F := f12_areAllApart_5_s R) (fun S t b => S (nI h) x b (nI t)) 31 (fun t b => b = true ↔ ∀ t1, t1 < t → ∀ t', t' < t1 → ¬ bad2 R h F x t1 t') some ?_ ?_ rv_FU 0 true (Nat.zero_le _) (FU_lt (by omega)) ⟨fun _ v hv => absurd hv (Nat.not_lt_zero _), fun _ => rfl⟩
  · obtain ⟨b, x1, x2⟩ := L
    have x1 : b = true ↔ ∀ t1, t1 < 31 → ∀ t', t' < t1 → ¬ bad2 R h F x t1 t' := x1
    refine ⟨b, x2, ?_⟩
    rw [x1, someT_bad]
    constructor
    · rintro z ⟨t, t', h1, h2, h3⟩; exact z t h1 t' h2 h3
    · intro z t h1 t' h2 h3; exact z ⟨t, t', h1, h2, h3⟩
  · intro S t b ht hI
    obtain ⟨b', e1, e2⟩ := inner S b t ht
    refine ⟨b', ?_, ?_⟩
    · rw [e2, hI]
      constructor
      · rintro ⟨z1, z2⟩ t1 h1
        by_cases e : t1 = t
        · subst e; exact z2
        · exact z1 t1 (by omega)
      · intro z
        exact ⟨fun t1 h1 => z t1 (by omega), z t (by omega)⟩
    · show f12_areAllApart_5_s R S (nI h) x b (nI t) = _
      unfold f12_areAllApart_5_s
      rw [if_pos (show nI t < 31 by rw [q_31, q_lt (by omega) (by omega)]; exact ht)]
      exact e1
  · intro S b _
    show f12_areAllApart_5_s R S (nI h) x b (nI 31) = _
    unfold f12_areAllApart_5_s
    rw [if_neg (show ¬ nI 31 < 31 by decide)]
/-- the fix at a place -/
def isFx (R : rv_Mem) (h : Nat) (x : Int32) (f p u : Nat) : Prop := chs R h x u = true ∧ ff R u = f ∧ fa R u = p
theorem s11_fixAt {n : Nat} {gh : rC_gh} {C R M : rv_Mem} (hR : Rn n gh C R) {h f p : Nat} {x : Int32} {L : Int64} (hM : ∀ k, 400 ≤ k → M k = C k) (hf : f < 4) (hp : p ≤ 10) (hL : ∀ u, u < 40 → (bl L u = true ↔ u < gh.1 2 ∧ chs R h x u = true)) : (∃ u, u < gh.1 2 ∧ isFx R h x f p u ∧ f11_fixAt gh M (nI f) (nI p) L = some (nI u)) ∨ ((∀ u, u < gh.1 2 → ¬ isFx R h x f p u) ∧ f11_fixAt gh M (nI f) (nI p) L = some NO) := by
  have hF := hR.cnt.2.2.2.2.2.2.2.1
  refine rv_ux (z := (fun _ _ _ _ => none)) (F := f11_fixAt_3_s gh M) (fun T u (_ : Unit) => T (nI f) (nI p) L (nI u)) (gh.1 2) (fun u _ => ∀ v, v < u → ¬ isFx R h x f p v) (fun r => (∃ u, u < gh.1 2 ∧ isFx R h x f p u ∧ r = some (nI u)) ∨ ((∀ u, u < gh.1 2 → ¬ isFx R h x f p u) ∧ r = some NO)) ?_ ?_ rv_FU 0 () (Nat.zero_le _) (FU_lt (by omega)) (fun v hv => absurd hv (Nat.not_lt_zero _))
  · intro T u _ hu hI
    obtain ⟨a1, a2, a3, a4, a5, a6, a7, a8, a9, a10⟩ := hR.fnd1 hu
    have l := hL u (by omega)
    have step : (isFx R h x f p u ∧ f11_fixAt_3_s gh M T (nI f) (nI p) L (nI u) = some (nI u)) ∨ (¬ isFx R h x f p u ∧ f11_fixAt_3_s gh M T (nI f) (nI p) L (nI u) = T (nI f) (nI p) L (nI (u + 1))) := by
      unfold f11_fixAt_3_s f11_fixAt_64 isFx
      rw [if_pos (show nI u < nI (gh.1 2) by rw [q_lt (by omega) (by omega)]; exact hu), if_pos (q_inb hu (by omega)), q_nc (by omega), if_pos (is5 hu hF), q_succ, show 400 + u + 100 = 500 + u by omega, hM (500 + u) (by omega), a4, a5]
      by_cases c1 : bl L u = true
      · rw [if_pos (by rw [bl_test (by omega)]; exact c1), if_pos (is85 hu hF)]
        by_cases c2 : ff R u = f
        · rw [if_pos (show nI (ff R u) = nI f by rw [c2])]
          by_cases c3 : fa R u = p
          · left
            exact ⟨⟨(l.mp c1).2, c2, c3⟩, by rw [if_pos (show nI (fa R u) = nI p by rw [c3])]⟩
          · right
            exact ⟨fun z => c3 z.2.2, by rw [if_neg (show ¬ nI (fa R u) = nI p by rw [q_eq (by omega) (by omega)]; exact c3)]⟩
        · right
          exact ⟨fun z => c2 z.2.1, by rw [if_neg (show ¬ nI (ff R u) = nI f by rw [q_eq (by omega) (by omega)]; exact c2)]⟩
      · right
        exact ⟨fun z => c1 (l.mpr ⟨hu, z.1⟩), by rw [if_neg (by rw [bl_test (by omega)]; exact c1)]⟩
    rcases step with ⟨s1, s2⟩ | ⟨s1, s2⟩
    · left; left
      exact ⟨u, hu, s1, s2⟩
    · right
      refine ⟨(), fun v hv => ?_, s2⟩
      by_cases e : v = u
      · subst e; exact s1
      · exact hI v (by omega)
  · intro T _ hI
    right
    refine ⟨hI, ?_⟩
    show f11_fixAt_3_s gh M T (nI f) (nI p) L (nI (gh.1 2)) = _
    unfold f11_fixAt_3_s
    rw [if_neg (show ¬ nI (gh.1 2) < nI (gh.1 2) by rw [q_lt (by omega) (by omega)]; omega), q_no]
theorem s12_fixAt {R : rv_Mem} {h F f p : Nat} {x : Int32} (hf : ∀ u, u < F → R 37 u = nI (ff R u) ∧ R 38 u = nI (fa R u) ∧ R 39 u = nI (fk R u) ∧ ff R u < 4 ∧ fa R u + fk R u ≤ 10) (hh : h < 20) (hF : F ≤ 40) (h34 : R 34 0 = nI F) (hf4 : f < 4) (hp : p ≤ 10) : (∃ u, u < F ∧ isFx R h x f p u ∧ f12_fixAt R (nI h) x (nI f) (nI p) = some (nI u)) ∨ ((∀ u, u < F → ¬ isFx R h x f p u) ∧ f12_fixAt R (nI h) x (nI f) (nI p) = some NO) := by
  have L := rv_ui (z := (fun _ _ _ _ _ _ => none)) (F := f12_fixAt_6_s R) (fun S t y => S (nI h) x (nI f) (nI p) y (nI t)) 31 (fun t y => (∃ u, u < F ∧ isFx R h x f p u ∧ pos R h u < t ∧ y = nI u) ∨ ((∀ u, u < F → pos R h u < t → ¬ isFx R h x f p u) ∧ y = NO)) some ?_ ?_ rv_FU 0 NO (Nat.zero_le _) (FU_lt (by omega)) (Or.inr ⟨fun v _ hv => absurd hv (Nat.not_lt_zero _), rfl⟩)
  · obtain ⟨y, x1, x2⟩ := L
    rcases x1 with ⟨u, u1, u2, u3, rfl⟩ | ⟨u1, rfl⟩
    · exact Or.inl ⟨u, u1, u2, x2⟩
    · refine Or.inr ⟨fun u hu hfx => u1 u hu ?_ hfx, x2⟩
      have := hfx.1
      unfold chs at this
      rw [Bool.and_eq_true, Bool.and_eq_true, decide_eq_true_iff] at this
      exact this.2.1
  · intro S t y ht hI
    have keep : (∀ u, u < F → pos R h u = t → ¬ isFx R h x f p u) → (∃ u, u < F ∧ isFx R h x f p u ∧ pos R h u < t + 1 ∧ y = nI u) ∨ ((∀ u, u < F → pos R h u < t + 1 → ¬ isFx R h x f p u) ∧ y = NO) := fun hn => by
      rcases hI with ⟨u, u1, u2, u3, u4⟩ | ⟨u1, u2⟩
      · exact Or.inl ⟨u, u1, u2, by omega, u4⟩
      · refine Or.inr ⟨fun u hu hp => ?_, u2⟩
        by_cases e : pos R h u = t
        · exact hn u hu e
        · exact u1 u hu (by omega)
    have e34 : ∀ y', f12_fixAt_34 R S (nI h) x (nI f) (nI p) y (nI t) y' = S (nI h) x (nI f) (nI p) (if y' = NO then y else if rv_in y' 40 = true then y else y) (nI (t + 1)) ∨ True := fun _ => Or.inr trivial
    show ∃ y', _ ∧ f12_fixAt_6_s R S (nI h) x (nI f) (nI p) y (nI t) = S (nI h) x (nI f) (nI p) y' (nI (t + 1))
    unfold f12_fixAt_6_s
    rw [if_pos (show nI t < 31 by rw [q_31, q_lt (by omega) (by omega)]; exact ht), s12_isTaken ht, o1_some]
    cases hb : bt x t with
    | false =>
      rw [if_neg (by simp)]
      refine ⟨y, keep (fun u hu hpu hfx => ?_), ?_⟩
      · have := hfx.1
        unfold chs at this
        rw [hpu, hb, Bool.and_false, Bool.and_false] at this; cases this
      · unfold f12_fixAt_34 f12_fixAt_70 f12_fixAt_72
        rw [if_neg (fun z => z rfl), q_succ]
    | true =>
      rw [if_pos rfl]
      rcases s12_findingAt (R := R) (h := h) (F := F) (t := t) hh hF h34 (by omega) with ⟨u, u1, u2, u3, u4⟩ | ⟨u1, u2⟩
      · rw [u4, o1_some]
        obtain ⟨a1, a2, a3, a4, a5⟩ := hf u u1
        have chu : chs R h x u = true := by
          unfold chs
          rw [u2, u3, decide_eq_true ht, hb]; rfl
        have un : ∀ v, v < F → pos R h v = t → chs R h x v = true → v = u := fun v hv hpv hcv => by
          unfold chs at hcv
          rw [Bool.and_eq_true] at hcv
          exact pos_inj hcv.1 u2 (by rw [hpv, u3])
        unfold f12_fixAt_34 f12_fixAt_70 f12_fixAt_72
        rw [q_no, if_pos (show ¬ nI u = NO by rw [q_no_eq (by omega)]; exact fun z => z), if_pos (q_inb (show u < 40 by omega) (by omega)), if_pos (q_inb (show u < 40 by omega) (by omega)), q_nc (by omega), a1, a2, q_succ]
        by_cases c2 : ff R u = f
        · rw [if_pos (show nI (ff R u) = nI f by rw [c2])]
          by_cases c3 : fa R u = p
          · rw [if_pos (show nI (fa R u) = nI p by rw [c3])]
            exact ⟨nI u, Or.inl ⟨u, u1, ⟨chu, c2, c3⟩, by omega, rfl⟩, rfl⟩
          · rw [if_neg (show ¬ nI (fa R u) = nI p by rw [q_eq (by omega) (by omega)]; exact c3)]
            refine ⟨y, keep (fun v hv hpv hfx => ?_), rfl⟩
            have := un v hv hpv hfx.1
            subst this; exact c3 hfx.2.2
        · rw [if_neg (show ¬ nI (ff R u) = nI f by rw [q_eq (by omega) (by omega)]; exact c2)]
          refine ⟨y, keep (fun v hv hpv hfx => ?_), rfl⟩
          have := un v hv hpv hfx.1
          subst this; exact c2 hfx.2.1
      · rw [u2, o1_some]
        refine ⟨y, keep (fun v hv hpv hfx => ?_), ?_⟩
        · have := hfx.1
          unfold chs at this
          rw [Bool.and_eq_true] at this
          exact u1 v hv this.1 hpv
        · unfold f12_fixAt_34 f12_fixAt_70 f12_fixAt_72
          rw [q_no, if_neg (fun z => z rfl), q_succ]
  · intro S y _
    show f12_fixAt_6_s R S (nI h) x (nI f) (nI p) y (nI 31) = _
    unfold f12_fixAt_6_s
    rw [if_neg (show ¬ nI 31 < 31 by decide)]

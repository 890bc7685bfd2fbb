/-! LANDING: children, chains within a set -/
theorem s12_hasChild {ch : Nat} {S : rv_Mem} {P : Nat → Int32} {g : Int32} {p : Nat} (hc : ch ≤ 20) (h11 : S 11 0 = nI ch) (hP : parR ch S P) : ∃ b, f12_hasChild S (nI p) g = some b ∧ (b = true ↔ ∃ i, i < ch ∧ bt g i = true ∧ P i = nI p) := by
  have L := rv_ui (z := (fun _ _ _ _ => none)) (F := f12_hasChild_5_s S) (fun t i b => t (nI p) g b (nI i)) ch (fun i b => b = true ↔ ∃ j, j < i ∧ bt g j = true ∧ P j = nI p) some ?_ ?_ rv_FU 0 false (Nat.zero_le _) (FU_lt (by omega)) ⟨fun z => (by cases z), fun ⟨j, hj, _⟩ => absurd hj (Nat.not_lt_zero _)⟩
  · obtain ⟨b, x1, x2⟩ := L
    exact ⟨b, x2, x1⟩
  · intro t i b hi hI
    have next : ∀ b', (b' = true ↔ b = true ∨ (bt g i = true ∧ P i = nI p)) → (b' = true ↔ ∃ j, j < i + 1 ∧ bt g j = true ∧ P j = nI p) := fun b' hb' => by
      rw [hb', hI]
      constructor
      · rintro (⟨j, j1, j2⟩ | z)
        · exact ⟨j, by omega, j2⟩
        · exact ⟨i, by omega, z⟩
      · rintro ⟨j, j1, j2⟩
        by_cases e : j = i
        · subst e; exact Or.inr j2
        · exact Or.inl ⟨j, by omega, j2⟩
    show ∃ b', _ ∧ f12_hasChild_5_s S t (nI p) g b (nI i) = t (nI p) g b' (nI (i + 1))
    unfold f12_hasChild_5_s f12_hasChild_37 f12_hasChild_41 f12_hasChild_42
    rw [h11, if_pos (show nI i < nI ch by rw [q_lt (by omega) (by omega)]; exact hi), q_succ]
    cases b with
    | true => exact ⟨true, next true ⟨fun _ => Or.inl rfl, fun _ => rfl⟩, by rw [if_neg (by simp)]⟩
    | false =>
      rw [if_pos rfl, s12_isOf (by omega), o1_some]
      cases hb : bt g i with
      | false => exact ⟨false, next false ⟨fun z => (by cases z), fun z => z.elim (fun y => y) (fun y => by rw [hb] at y; cases y.1)⟩, by rw [if_neg (by simp)]⟩
      | true =>
        rw [if_pos rfl, hP i hi, o1_some]
        by_cases c : P i = nI p
        · exact ⟨true, next true ⟨fun _ => Or.inr ⟨hb, c⟩, fun _ => rfl⟩, by rw [if_pos c]⟩
        · exact ⟨false, next false ⟨fun z => (by cases z), fun z => z.elim (fun y => y) (fun y => absurd y.2 c)⟩, by rw [if_neg c]⟩
  · intro t b _
    show f12_hasChild_5_s S t (nI p) g b (nI ch) = _
    unfold f12_hasChild_5_s
    rw [h11, if_neg (show ¬ nI ch < nI ch by rw [q_lt (by omega) (by omega)]; omega)]
/-- the parent, if it is in the set -/
def cg (P : Nat → Int32) (x : Int32) (i : Nat) : Int32 := if P i ≠ NO ∧ bt x (P i).toNatClampNeg = true then P i else NO
theorem cg_V {ch : Nat} {P : Nat → Int32} {x : Int32} (hV : parV ch P) : parV ch (cg P x) := fun i hi => by
  unfold cg
  by_cases c : P i ≠ NO ∧ bt x (P i).toNatClampNeg = true
  · rw [if_pos c]; exact hV i hi
  · rw [if_neg c]; exact Or.inl rfl
theorem cg_in {P : Nat → Int32} {x : Int32} {i p : Nat} (hp : p < 20) (h : P i = nI p) (hb : bt x p = true) : cg P x i = nI p := by
  unfold cg
  rw [h, q_nc (by omega), if_pos ⟨by rw [Ne, q_no_eq (by omega)]; simp, hb⟩]
theorem cg_out {P : Nat → Int32} {x : Int32} {i : Nat} (h : P i = NO ∨ ∃ p, p < 20 ∧ P i = nI p ∧ bt x p = false) : cg P x i = NO := by
  unfold cg
  rcases h with h | ⟨p, hp, h, hb⟩
  · rw [if_neg (fun z => z.1 h)]
  · rw [h, q_nc (by omega), if_neg (fun z => by rw [hb] at z; cases z.2)]
theorem s5_sqParent {gh : rC_gh} {M : rv_Mem} {P : Nat → Int32} {x : Int32} (hc : gh.1 0 ≤ 20) (hP : parC gh M P) (hV : parV (gh.1 0) P) (h65 : M 6 5 = x) {i : Nat} (hi : i < gh.1 0) : f5_squashedParentOf gh M (nI i) = some (cg P x i) := by
  unfold f5_squashedParentOf
  rw [hP i hi, o1_some, h65]
  rcases hV i hi with z | ⟨p, p1, p2⟩
  · rw [z, q_no, if_neg (fun y => y rfl), cg_out (Or.inl z)]
  · rw [p2, q_no, if_pos (show ¬ nI p = NO by rw [q_no_eq (by omega)]; exact fun y => y), s11_isIn (by omega), o1_some]
    cases hb : bt x p with
    | true => rw [if_pos rfl, cg_in (by omega) p2 hb]
    | false => rw [if_neg (by simp), cg_out (Or.inr ⟨p, by omega, p2, hb⟩)]
/-- the end of a chain -/
def endOf (f : Nat → Int32) (a e : Nat) : Prop := ∃ d, pch f (nI a) d = nI e ∧ f e = NO
theorem endOf_uniq {f : Nat → Int32} {a e e' : Nat} (he : e < 2147483648) (he' : e' < 2147483648) (h : endOf f a e) (h' : endOf f a e') : e = e' := by
  obtain ⟨d, d1, d2⟩ := h
  obtain ⟨d', d1', d2'⟩ := h'
  have st : ∀ (b : Nat) (k : Nat), b < 2147483648 → pch f (nI a) k = nI b → f b = NO → ∀ k', k < k' → pch f (nI a) k' = NO := fun b k hb h1 h2 k' hk => by
    have h3 : pch f (nI a) (k + 1) = NO := by rw [pch_s, h1, if_neg (by rw [q_no_eq hb]; simp), q_nc hb, h2]
    have := pch_no h3 (k' - (k + 1))
    rw [show k + 1 + (k' - (k + 1)) = k' by omega] at this; exact this
  rcases Nat.lt_trichotomy d d' with c | c | c
  · have := st e d he d1 d2 d' c
    rw [d1', q_no_eq he'] at this; exact this.elim
  · subst c
    rw [d1, q_eq he he'] at d1'; exact d1'
  · have := st e' d' he' d1' d2' d c
    rw [d1, q_no_eq he] at this; exact this.elim
theorem pch_end2 {f : Nat → Int32} {ch : Nat} {x : Int32} {ρ : Nat → Nat} (hx : x = NO ∨ ∃ g, g < ch ∧ x = nI g) (hc : ch ≤ 20) (hf : ∀ g, g < ch → f g = NO ∨ ∃ g', g' < ch ∧ f g = nI g') (hρ : ∀ g g', g < ch → g' < ch → f g = nI g' → ρ g' < ρ g) : pch f x 20 = NO := by
  refine pch_end (ρ := fun g => if g < ch then ρ g + 1 else 0) hx hc hf (fun g g' hg h => ?_)
  show (if g' < ch then ρ g' + 1 else 0) < (if g < ch then ρ g + 1 else 0)
  rw [if_pos hg]
  by_cases c : g' < ch
  · rw [if_pos c]; have := hρ g g' hg c h; omega
  · rw [if_neg c]; omega
theorem cg_ρ {ch : Nat} {P : Nat → Int32} {x : Int32} {ρ : Nat → Nat} (hc : ch ≤ 20) (hρ : ∀ i p, i < ch → p < ch → P i = nI p → ρ p < ρ i) : ∀ i p, i < ch → p < ch → cg P x i = nI p → ρ p < ρ i := fun i p hi hp h => by
  unfold cg at h
  by_cases c : P i ≠ NO ∧ bt x (P i).toNatClampNeg = true
  · rw [if_pos c] at h; exact hρ i p hi hp h
  · rw [if_neg c, q_no_eq' (by omega)] at h; exact h.elim
theorem s5_mergeBase {gh : rC_gh} {M : rv_Mem} {P : Nat → Int32} {x : Int32} {ρ : Nat → Nat} {bsf : Nat → Nat} (hc : gh.1 0 ≤ 20) (hP : parC gh M P) (hV : parV (gh.1 0) P) (h65 : M 6 5 = x) (hρ : ∀ i p, i < gh.1 0 → p < gh.1 0 → P i = nI p → ρ p < ρ i) (hb : ∀ i, i < gh.1 0 → f5_mergeBaseOf_37 gh M (nI i) = some (nI (bsf i))) {a : Nat} (ha : a < gh.1 0) : ∃ e, e < gh.1 0 ∧ endOf (cg P x) a e ∧ f5_mergeBaseOf gh M (nI a) = some (nI (bsf e)) := by
  have hVc := cg_V (x := x) hV
  have en : pch (cg P x) (nI a) 20 = NO := pch_end2 (Or.inr ⟨a, ha, rfl⟩) hc hVc (cg_ρ hc hρ)
  have val := fun d => (pch_cong (f' := cg P x) (x := nI a) (Or.inr ⟨a, ha, rfl⟩) hc hVc (fun _ _ => rfl) d).2
  unfold f5_mergeBaseOf
  rw [s5_sqParent hc hP hV h65 ha, o1_some]
  refine rv_ux (z := (fun _ _ _ => none)) (F := f5_mergeBaseOf_11_s gh M) (fun t k (c : Nat) => t (nI c) (cg P x c) (nI k)) 20 (fun k c => c < gh.1 0 ∧ pch (cg P x) (nI a) k = nI c) (fun r => ∃ e, e < gh.1 0 ∧ endOf (cg P x) a e ∧ r = some (nI (bsf e))) ?_ ?_ rv_FU 0 a (Nat.zero_le _) (FU_lt (by omega)) ⟨ha, rfl⟩
  · rintro t k c hk ⟨i1, i2⟩
    show (∃ e, _ ∧ _ ∧ f5_mergeBaseOf_11_s gh M t (nI c) (cg P x c) (nI k) = _) ∨ ∃ c' : Nat, _ ∧ f5_mergeBaseOf_11_s gh M t (nI c) (cg P x c) (nI k) = _
    unfold f5_mergeBaseOf_11_s
    rw [if_pos (show nI k < 20 by rw [q_20, q_lt (by omega) (by omega)]; exact hk), q_no]
    rcases hVc c i1 with z | ⟨p, p1, p2⟩
    · left
      rw [z, if_neg (fun y => y rfl), hb c i1]
      exact ⟨c, i1, ⟨k, i2, z⟩, rfl⟩
    · right
      rw [p2, if_pos (show ¬ nI p = NO by rw [q_no_eq (by omega)]; exact fun y => y), s5_sqParent hc hP hV h65 p1, o1_some, q_succ]
      refine ⟨p, ⟨p1, ?_⟩, rfl⟩
      rw [pch_s, i2, if_neg (by rw [q_no_eq (by omega)]; simp), q_nc (by omega), p2]
  · rintro t c ⟨i1, i2⟩
    exfalso
    have i2 : pch (cg P x) (nI a) 20 = nI c := i2
    rw [en, q_no_eq' (by omega)] at i2; exact i2
/-- the reference's isBelow -/
theorem s12_isBelow {ch : Nat} {S : rv_Mem} {P : Nat → Int32} {g : Int32} {ρ : Nat → Nat} (hc : ch ≤ 20) (hP : parR ch S P) (hV : parV ch P) (hρ : ∀ i p, i < ch → p < ch → P i = nI p → ρ p < ρ i) {a y : Nat} (ha : a < ch) (hga : bt g a = true) (hy : y < ch) : ∃ b, f12_isBelow S (nI a) (nI y) g = some b ∧ (b = true ↔ ∃ d, pch (cg P g) (nI a) d = nI y) := by
  have hVc := cg_V (x := g) hV
  have en : pch (cg P g) (nI a) 20 = NO := pch_end2 (Or.inr ⟨a, ha, rfl⟩) hc hVc (cg_ρ hc hρ)
  have val := fun d => (pch_cong (f' := cg P g) (x := nI a) (Or.inr ⟨a, ha, rfl⟩) hc hVc (fun _ _ => rfl) d).2
  have nh : ¬ NO = nI y := by rw [q_no_eq' (by omega)]; simp
  obtain ⟨b, b1⟩ : ∃ b : Bool, b = true ↔ ∃ d, pch (cg P g) (nI a) d = nI y := by
    by_cases c : ∃ d, pch (cg P g) (nI a) d = nI y
    · exact ⟨true, fun _ => c, fun _ => rfl⟩
    · exact ⟨false, fun z => (by cases z), fun z => absurd z c⟩
  refine ⟨b, ?_, b1⟩
  have bF : (∀ d, pch (cg P g) (nI a) d ≠ nI y) → b = false := fun z => by
    cases b with
    | false => rfl
    | true => obtain ⟨d, hd⟩ := b1.mp rfl; exact absurd hd (z d)
  -- the place of the loop: the chain's element, or beyond the set
  refine rv_ux (z := (fun _ _ _ _ => none)) (F := f12_isBelow_6_s S) (fun t (_ : Nat) (q : Int32 × Bool) => t (nI y) g q.2 q.1) 30 (fun k q => (q.1 = NO ∨ ∃ c, c < ch ∧ q.1 = nI c) ∧ (q.2 = true ↔ ∃ d, d < k ∧ pch (cg P g) (nI a) d = nI y) ∧ ((∃ c, c < ch ∧ q.1 = nI c ∧ bt g c = true ∧ pch (cg P g) (nI a) k = nI c) ∨ ((∀ c, c < ch → q.1 = nI c → bt g c = false) ∧ pch (cg P g) (nI a) k = NO))) (fun r => r = some b) ?_ ?_ rv_FU 0 (nI a, false) (Nat.zero_le _) (FU_lt (by omega)) ⟨Or.inr ⟨a, ha, rfl⟩, ⟨fun z => (by cases z), fun ⟨d, hd, _⟩ => absurd hd (Nat.not_lt_zero _)⟩, Or.inl ⟨a, ha, rfl, hga, rfl⟩⟩
  · rintro t k ⟨cur, w⟩ hk ⟨i0, i1, i2⟩
    have i0 : cur = NO ∨ ∃ c, c < ch ∧ cur = nI c := i0
    have i1 : w = true ↔ ∃ d, d < k ∧ pch (cg P g) (nI a) d = nI y := i1
    have i2 : (∃ c, c < ch ∧ cur = nI c ∧ bt g c = true ∧ pch (cg P g) (nI a) k = nI c) ∨ ((∀ c, c < ch → cur = nI c → bt g c = false) ∧ pch (cg P g) (nI a) k = NO) := i2
    have done : pch (cg P g) (nI a) k = NO → w = b := fun hno => by
      cases w with
      | true =>
        obtain ⟨d, -, hd⟩ := i1.mp rfl
        exact (b1.mpr ⟨d, hd⟩).symm
      | false =>
        refine (bF (fun d hd => ?_)).symm
        by_cases c : d < k
        · have := i1.mpr ⟨d, c, hd⟩; cases this
        · have := pch_no hno (d - k)
          rw [show k + (d - k) = d by omega, hd] at this
          exact nh this.symm
    show f12_isBelow_6_s S t (nI y) g w cur = some b ∨ ∃ a' : Int32 × Bool, _ ∧ f12_isBelow_6_s S t (nI y) g w cur = _
    unfold f12_isBelow_6_s f12_isBelow_37
    rw [q_no]
    rcases i2 with ⟨c, c1, c2, c3, c4⟩ | ⟨c1, c2⟩
    · subst c2
      rw [if_pos (show ¬ nI c = NO by rw [q_no_eq (by omega)]; exact fun z => z), s12_isOf (by omega), o1_some, c3, if_pos rfl]
      cases w with
      | true =>
        left
        obtain ⟨d, -, hd⟩ := i1.mp rfl
        rw [if_neg (by simp), b1.mpr ⟨d, hd⟩]
      | false =>
        right
        rw [if_pos rfl, hP c c1, o1_some, o1_some]
        have nw : ∀ w', (w' = true ↔ c = y) → (w' = true ↔ ∃ d, d < k + 1 ∧ pch (cg P g) (nI a) d = nI y) := fun w' hw => by
          rw [hw]
          constructor
          · rintro rfl; exact ⟨k, by omega, c4⟩
          · rintro ⟨d, d1, d2⟩
            by_cases e : d = k
            · subst e
              rw [c4, q_eq (by omega) (by omega)] at d2; exact d2
            · have := i1.mpr ⟨d, by omega, d2⟩; cases this
        have nx : ((∃ c', c' < ch ∧ P c = nI c' ∧ bt g c' = true ∧ pch (cg P g) (nI a) (k + 1) = nI c') ∨ ((∀ c', c' < ch → P c = nI c' → bt g c' = false) ∧ pch (cg P g) (nI a) (k + 1) = NO)) := by
          have e1 : pch (cg P g) (nI a) (k + 1) = cg P g c := by rw [pch_s, c4, if_neg (by rw [q_no_eq (by omega)]; simp), q_nc (by omega)]
          rw [e1]
          rcases hV c c1 with z | ⟨p, p1, p2⟩
          · right
            exact ⟨fun c' hc' hh => by rw [z, q_no_eq' (by omega)] at hh; exact hh.elim, cg_out (Or.inl z)⟩
          · cases hbp : bt g p with
            | true => exact Or.inl ⟨p, p1, p2, hbp, cg_in (by omega) p2 hbp⟩
            | false =>
              right
              refine ⟨fun c' hc' hh => ?_, cg_out (Or.inr ⟨p, by omega, p2, hbp⟩)⟩
              rw [p2, q_eq (by omega) (by omega)] at hh
              subst hh; exact hbp
        by_cases e : c = y
        · rw [if_pos (show nI c = nI y by rw [e])]
          exact ⟨(P c, true), ⟨hV c c1, nw true ⟨fun _ => e, fun _ => rfl⟩, nx⟩, rfl⟩
        · rw [if_neg (show ¬ nI c = nI y by rw [q_eq (by omega) (by omega)]; exact e)]
          exact ⟨(P c, false), ⟨hV c c1, nw false ⟨fun z => (by cases z), fun z => absurd z e⟩, nx⟩, rfl⟩
    · left
      rw [← done c2]
      rcases i0 with z | ⟨c, c3, c4⟩
      · rw [z, if_neg (fun x => x rfl)]
      · subst c4
        rw [if_pos (show ¬ nI c = NO by rw [q_no_eq (by omega)]; exact fun z => z), s12_isOf (by omega), o1_some, c1 c c3 rfl, if_neg (by simp)]
  · rintro t ⟨cur, w⟩ ⟨i0, i1, i2⟩
    have i0 : cur = NO ∨ ∃ c, c < ch ∧ cur = nI c := i0
    have i1 : w = true ↔ ∃ d, d < 30 ∧ pch (cg P g) (nI a) d = nI y := i1
    have i2 : (∃ c, c < ch ∧ cur = nI c ∧ bt g c = true ∧ pch (cg P g) (nI a) 30 = nI c) ∨ ((∀ c, c < ch → cur = nI c → bt g c = false) ∧ pch (cg P g) (nI a) 30 = NO) := i2
    have far := pch_no en 10
    have far : pch (cg P g) (nI a) 30 = NO := far
    have hw : w = b := by
      cases w with
      | true =>
        obtain ⟨d, -, hd⟩ := i1.mp rfl
        exact (b1.mpr ⟨d, hd⟩).symm
      | false =>
        refine (bF (fun d hd => ?_)).symm
        by_cases c : d < 30
        · have := i1.mpr ⟨d, c, hd⟩; cases this
        · have := pch_no far (d - 30)
          rw [show 30 + (d - 30) = d by omega, hd] at this
          exact nh this.symm
    show f12_isBelow_6_s S t (nI y) g w cur = some b
    unfold f12_isBelow_6_s
    rw [q_no, hw]
    rcases i2 with ⟨c, c1, c2, c3, c4⟩ | ⟨c1, -⟩
    · rw [far, q_no_eq' (by omega)] at c4; exact c4.elim
    · rcases i0 with z | ⟨c, c3, c4⟩
      · rw [z, if_neg (fun x => x rfl)]
      · subst c4
        rw [if_pos (show ¬ nI c = NO by rw [q_no_eq (by omega)]; exact fun z => z), s12_isOf (by omega), o1_some, c1 c c3 rfl, if_neg (by simp)]

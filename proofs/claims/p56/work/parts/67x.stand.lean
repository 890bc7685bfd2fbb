/-! LANDING: who stands for whom; the base to merge from, the reference -/
theorem s5_standFor {gh : rC_gh} {M : rv_Mem} {P : Nat → Int32} {x : Int32} {ρ : Nat → Nat} {v : Nat} (hc : gh.1 0 ≤ 20) (hPC : ∀ M', (∀ q, q ≠ 52 → M' q = M q) → parC gh M' P) (hV : parV (gh.1 0) P) (h65 : M 6 5 = x) (hρ : ∀ i p, i < gh.1 0 → p < gh.1 0 → P i = nI p → ρ p < ρ i) (hv : v < 2147483648) {a : Nat} (ha : a < gh.1 0) :
    ∃ M', f5_standFor gh M (nI a) (nI v) = some M' ∧ (∀ q, q ≠ 52 → M' q = M q) ∧ ∀ i, i < 20 → ((∃ d, pch (cg P x) (nI a) d = nI i) ∧ M 52 i = NO → M' 52 i = nI v) ∧ (¬ ((∃ d, pch (cg P x) (nI a) d = nI i) ∧ M 52 i = NO) → M' 52 i = M 52 i) := by
  have hVc := cg_V (x := x) hV
  have en : pch (cg P x) (nI a) 20 = NO := pch_end2 (Or.inr ⟨a, ha, rfl⟩) hc hVc (cg_ρ hc hρ)
  have val := fun d => (pch_cong (f' := cg P x) (x := nI a) (Or.inr ⟨a, ha, rfl⟩) hc hVc (fun _ _ => rfl) d).2
  have vN : nI v ≠ NO := by rw [Ne, q_no_eq hv]; simp
  have lt20 : ∀ i, i < 20 → ∀ k, pch (cg P x) (nI a) k = NO → ((∃ d, pch (cg P x) (nI a) d = nI i) ↔ ∃ d, d < k ∧ pch (cg P x) (nI a) d = nI i) := fun i hi k hk => by
    constructor
    · rintro ⟨d, hd⟩
      refine ⟨d, ?_, hd⟩
      apply Classical.byContradiction
      intro z
      have := pch_no hk (d - k)
      rw [show k + (d - k) = d by omega, hd, q_no_eq (by omega)] at this; exact this
    · rintro ⟨d, -, hd⟩; exact ⟨d, hd⟩
  have fin : ∀ k (M' : rv_Mem), pch (cg P x) (nI a) k = NO → (∀ q, q ≠ 52 → M' q = M q) → (∀ i, i < 20 → ((∃ d, d < k ∧ pch (cg P x) (nI a) d = nI i) ∧ M 52 i = NO → M' 52 i = nI v) ∧ (¬ ((∃ d, d < k ∧ pch (cg P x) (nI a) d = nI i) ∧ M 52 i = NO) → M' 52 i = M 52 i)) → ∃ M'', some M' = some M'' ∧ (∀ q, q ≠ 52 → M'' q = M q) ∧ ∀ i, i < 20 → ((∃ d, pch (cg P x) (nI a) d = nI i) ∧ M 52 i = NO → M'' 52 i = nI v) ∧ (¬ ((∃ d, pch (cg P x) (nI a) d = nI i) ∧ M 52 i = NO) → M'' 52 i = M 52 i) := fun k M' hk h1 h2 => by
    refine ⟨M', rfl, h1, fun i hi => ?_⟩
    rw [lt20 i hi k hk]
    exact h2 i hi
  refine rv_ux (z := (fun _ _ _ _ => none)) (F := f5_standFor_5_s gh) (fun t k (s : rv_Mem × Int32) => t s.1 (nI v) s.2 (nI k)) 20 (fun k s => s.2 = pch (cg P x) (nI a) k ∧ (∀ q, q ≠ 52 → s.1 q = M q) ∧ ∀ i, i < 20 → ((∃ d, d < k ∧ pch (cg P x) (nI a) d = nI i) ∧ M 52 i = NO → s.1 52 i = nI v) ∧ (¬ ((∃ d, d < k ∧ pch (cg P x) (nI a) d = nI i) ∧ M 52 i = NO) → s.1 52 i = M 52 i)) (fun r => ∃ M', r = some M' ∧ (∀ q, q ≠ 52 → M' q = M q) ∧ ∀ i, i < 20 → ((∃ d, pch (cg P x) (nI a) d = nI i) ∧ M 52 i = NO → M' 52 i = nI v) ∧ (¬ ((∃ d, pch (cg P x) (nI a) d = nI i) ∧ M 52 i = NO) → M' 52 i = M 52 i)) ?_ ?_ rv_FU 0 (M, nI a) (Nat.zero_le _) (FU_lt (by omega)) ⟨rfl, fun _ _ => rfl, fun i hi => ⟨fun ⟨⟨d, hd, _⟩, _⟩ => absurd hd (Nat.not_lt_zero _), fun _ => rfl⟩⟩
  · rintro t k ⟨M1, cur⟩ hk ⟨i0, i1, i2⟩
    have i0 : cur = pch (cg P x) (nI a) k := i0
    have i1 : ∀ q, q ≠ 52 → M1 q = M q := i1
    have i2 : ∀ i, i < 20 → ((∃ d, d < k ∧ pch (cg P x) (nI a) d = nI i) ∧ M 52 i = NO → M1 52 i = nI v) ∧ (¬ ((∃ d, d < k ∧ pch (cg P x) (nI a) d = nI i) ∧ M 52 i = NO) → M1 52 i = M 52 i) := i2
    show (∃ M', f5_standFor_5_s gh t M1 (nI v) cur (nI k) = some M' ∧ _) ∨ ∃ a' : rv_Mem × Int32, _ ∧ f5_standFor_5_s gh t M1 (nI v) cur (nI k) = _
    unfold f5_standFor_5_s f5_standFor_38
    rw [if_pos (show nI k < 20 by rw [q_20, q_lt (by omega) (by omega)]; exact hk), q_no]
    rcases val k with z | ⟨c, c1, c2⟩
    · left
      rw [i0, z, if_neg (fun y => y rfl)]
      exact fin k M1 z i1 i2
    · right
      rw [c2] at i0
      subst i0
      have i1 : ∀ q, q ≠ 52 → M1 q = M q := i1
      have i2 : ∀ i, i < 20 → ((∃ d, d < k ∧ pch (cg P x) (nI a) d = nI i) ∧ M 52 i = NO → M1 52 i = nI v) ∧ (¬ ((∃ d, d < k ∧ pch (cg P x) (nI a) d = nI i) ∧ M 52 i = NO) → M1 52 i = M 52 i) := i2
      have nx : cg P x c = pch (cg P x) (nI a) (k + 1) := by rw [pch_s, c2, if_neg (by rw [q_no_eq (by omega)]; simp), q_nc (by omega)]
      have ks : ∀ i, i < 20 → ((∃ d, d < k + 1 ∧ pch (cg P x) (nI a) d = nI i) ↔ i = c ∨ ∃ d, d < k ∧ pch (cg P x) (nI a) d = nI i) := fun i hi => by
        constructor
        · rintro ⟨d, d1, d2⟩
          by_cases e : d = k
          · subst e
            rw [c2, q_eq (by omega) (by omega)] at d2
            exact Or.inl d2.symm
          · exact Or.inr ⟨d, by omega, d2⟩
        · rintro (rfl | ⟨d, d1, d2⟩)
          · exact ⟨k, by omega, c2⟩
          · exact ⟨d, by omega, d2⟩
      rw [if_pos (show ¬ nI c = NO by rw [q_no_eq (by omega)]; exact fun y => y), s9_read (L := 20) (show c < 20 by omega) rfl rfl (by omega), o1_some]
      by_cases c0 : M1 52 c = NO
      · have m0 : M 52 c = NO := by
          apply Classical.byContradiction
          intro y
          have := (i2 c (by omega)).2 (fun w => y w.2)
          rw [c0] at this; exact y this.symm
        have u1 : ∀ q, q ≠ 52 → rv_u M1 52 c (nI v) q = M q := fun q hq => by rw [mu_ne hq, i1 q hq]
        rw [if_pos c0, s9_write (L := 20) (show c < 20 by omega) rfl rfl (by omega), o1_some, s5_sqParent (x := x) hc (hPC _ u1) hV (by rw [u1 6 (by omega)]; exact h65) c1, o1_some, q_succ]
        refine ⟨(rv_u M1 52 c (nI v), cg P x c), ⟨nx, u1, fun i hi => ?_⟩, rfl⟩
        show ((∃ d, d < k + 1 ∧ pch (cg P x) (nI a) d = nI i) ∧ M 52 i = NO → rv_u M1 52 c (nI v) 52 i = nI v) ∧ (¬ ((∃ d, d < k + 1 ∧ pch (cg P x) (nI a) d = nI i) ∧ M 52 i = NO) → rv_u M1 52 c (nI v) 52 i = M 52 i)
        rw [ks i hi]
        by_cases e : i = c
        · subst e
          rw [mu_same]
          exact ⟨fun _ => rfl, fun y => absurd ⟨Or.inl rfl, m0⟩ y⟩
        · rw [mu_ne2 e]
          refine ⟨fun y => (i2 i hi).1 ⟨?_, y.2⟩, fun y => (i2 i hi).2 (fun w => y ⟨Or.inr w.1, w.2⟩)⟩
          rcases y.1 with w | w
          · exact absurd w e
          · exact w
      · rw [if_neg c0, s5_sqParent (x := x) hc (hPC _ i1) hV (by rw [i1 6 (by omega)]; exact h65) c1, o1_some, q_succ]
        refine ⟨(M1, cg P x c), ⟨nx, i1, fun i hi => ?_⟩, rfl⟩
        show ((∃ d, d < k + 1 ∧ pch (cg P x) (nI a) d = nI i) ∧ M 52 i = NO → M1 52 i = nI v) ∧ (¬ ((∃ d, d < k + 1 ∧ pch (cg P x) (nI a) d = nI i) ∧ M 52 i = NO) → M1 52 i = M 52 i)
        rw [ks i hi]
        by_cases e : i = c
        · subst e
          by_cases w : ∃ d, d < k ∧ pch (cg P x) (nI a) d = nI i
          · exact ⟨fun y => (i2 i hi).1 ⟨w, y.2⟩, fun y => (i2 i hi).2 (fun z => y ⟨Or.inr z.1, z.2⟩)⟩
          · have := (i2 i hi).2 (fun z => w z.1)
            exact ⟨fun y => absurd (this.trans y.2) c0, fun _ => this⟩
        · refine ⟨fun y => (i2 i hi).1 ⟨?_, y.2⟩, fun y => (i2 i hi).2 (fun w => y ⟨Or.inr w.1, w.2⟩)⟩
          rcases y.1 with w | w
          · exact absurd w e
          · exact w
  · rintro t ⟨M1, cur⟩ ⟨i0, i1, i2⟩
    have i1 : ∀ q, q ≠ 52 → M1 q = M q := i1
    show ∃ M', f5_standFor_5_s gh t M1 (nI v) cur (nI 20) = some M' ∧ _
    unfold f5_standFor_5_s
    rw [if_neg (show ¬ nI 20 < 20 by decide)]
    exact fin 20 M1 en i1 i2
/-- the reference's loop over the squashed ones -/
theorem s12_stand {k47 : rv_Mem → Int32 → Int32 → Int32 → Int32 → Int32 → Int32 → Int32 → Bool → Option (Int32 × rv_Mem)} {ch : Nat} {S : rv_Mem} {P : Nat → Int32} {ρ : Nat → Nat} {g x2 x4 x5 x6 x7 x8 : Int32} {x9 : Bool} {v a : Nat} (hc : ch ≤ 20) (h11 : S 11 0 = nI ch) (hPR : ∀ S', (∀ q, q ≠ 18 → S' q = S q) → parR ch S' P) (hV : parV ch P) (hρ : ∀ i p, i < ch → p < ch → P i = nI p → ρ p < ρ i) (hv : v < 2147483648) (ha : a < ch) (hga : bt g a = true) :
    ∃ S', f12_lands_130 k47 rv_FU S x2 g x4 x5 x6 x7 x8 x9 (nI a) (nI v) 0 = k47 S' x2 g x4 x5 x6 x7 x8 x9 ∧ (∀ q, q ≠ 18 → S' q = S q) ∧ (∀ i, ch ≤ i → S' 18 i = S 18 i) ∧ ∀ i, i < ch → (bt x8 i = true ∧ S 18 i = NO ∧ (∃ d, pch (cg P g) (nI a) d = nI i) → S' 18 i = nI v) ∧ (¬ (bt x8 i = true ∧ S 18 i = NO ∧ ∃ d, pch (cg P g) (nI a) d = nI i) → S' 18 i = S 18 i) := by
  have L := rv_ui (z := (fun _ _ _ _ _ _ _ _ _ _ _ _ => none)) (F := f12_lands_130_s k47) (fun t i M => t M x2 g x4 x5 x6 x7 x8 x9 (nI a) (nI v) (nI i)) ch (fun i M => (∀ q, q ≠ 18 → M q = S q) ∧ (∀ j, i ≤ j → M 18 j = S 18 j) ∧ ∀ j, j < i → (bt x8 j = true ∧ S 18 j = NO ∧ (∃ d, pch (cg P g) (nI a) d = nI j) → M 18 j = nI v) ∧ (¬ (bt x8 j = true ∧ S 18 j = NO ∧ ∃ d, pch (cg P g) (nI a) d = nI j) → M 18 j = S 18 j)) (fun M => k47 M x2 g x4 x5 x6 x7 x8 x9) ?_ ?_ rv_FU 0 S (Nat.zero_le _) (FU_lt (by omega)) ⟨fun _ _ => rfl, fun _ _ => rfl, fun j hj => absurd hj (Nat.not_lt_zero _)⟩
  · obtain ⟨S', ⟨y1, y2, y3⟩, y4⟩ := L
    exact ⟨S', y4, y1, y2, y3⟩
  · rintro t i M hi ⟨i1, i2, i3⟩
    have hMi : M 18 i = S 18 i := i2 i (Nat.le_refl _)
    have i20 : rv_in (nI i) 20 = true := q_inb (by omega) (by omega)
    -- what is written
    have fin : ∀ w : Int32, ((bt x8 i = true ∧ S 18 i = NO ∧ (∃ d, pch (cg P g) (nI a) d = nI i) → w = nI v) ∧ (¬ (bt x8 i = true ∧ S 18 i = NO ∧ ∃ d, pch (cg P g) (nI a) d = nI i) → w = S 18 i)) → (∀ q, q ≠ 18 → rv_u M 18 i w q = S q) ∧ (∀ j, i + 1 ≤ j → rv_u M 18 i w 18 j = S 18 j) ∧ ∀ j, j < i + 1 → (bt x8 j = true ∧ S 18 j = NO ∧ (∃ d, pch (cg P g) (nI a) d = nI j) → rv_u M 18 i w 18 j = nI v) ∧ (¬ (bt x8 j = true ∧ S 18 j = NO ∧ ∃ d, pch (cg P g) (nI a) d = nI j) → rv_u M 18 i w 18 j = S 18 j) := fun w hw => by
      refine ⟨fun q hq => by rw [mu_ne hq, i1 q hq], fun j hj => by rw [mu_ne2 (by omega), i2 j (by omega)], fun j hj => ?_⟩
      by_cases e : j = i
      · subst e; rw [mu_same]; exact hw
      · rw [mu_ne2 e]; exact i3 j (by omega)
    have e207 : ∀ w : Int32, f12_lands_207 k47 t M x2 g x4 x5 x6 x7 x8 x9 (nI a) (nI v) (nI i) (nI i) w = t (rv_u M 18 i w) x2 g x4 x5 x6 x7 x8 x9 (nI a) (nI v) (nI (i + 1)) := fun w => by
      unfold f12_lands_207
      rw [if_pos i20, q_nc (by omega), lt_do, q_succ]
    show ∃ M', _ ∧ f12_lands_130_s k47 t M x2 g x4 x5 x6 x7 x8 x9 (nI a) (nI v) (nI i) = t M' x2 g x4 x5 x6 x7 x8 x9 (nI a) (nI v) (nI (i + 1))
    unfold f12_lands_130_s f12_lands_181 f12_lands_182
    rw [i1 11 (by omega), h11, if_pos (show nI i < nI ch by rw [q_lt (by omega) (by omega)]; exact hi), if_pos (show 0 ≤ nI v by rw [q_0, q_le (by omega) hv]; omega), s12_isOf (by omega), o1_some]
    cases hb : bt x8 i with
    | false =>
      rw [if_neg (by simp), if_neg (by simp), if_pos i20, e207, q_nc (by omega)]
      exact ⟨_, fin _ ⟨fun z => (by rw [hb] at z; cases z.1), fun _ => hMi⟩, rfl⟩
    | true =>
      rw [if_pos rfl, if_pos i20, q_nc (by omega), hMi, q_no]
      by_cases c0 : S 18 i = NO
      · obtain ⟨b, b1, b2⟩ := s12_isBelow hc (hPR M i1) hV hρ ha hga hi
        rw [if_pos c0, b1, o1_some]
        cases b with
        | true =>
          rw [if_pos rfl, if_pos rfl, e207]
          exact ⟨_, fin _ ⟨fun _ => rfl, fun z => absurd ⟨hb, c0, b2.mp rfl⟩ z⟩, rfl⟩
        | false =>
          rw [if_neg (by simp), if_neg (by simp), if_pos i20, e207]
          exact ⟨_, fin _ ⟨fun z => (by have := b2.mpr z.2.2; cases this), fun _ => rfl⟩, rfl⟩
      · rw [if_neg c0, if_neg (by simp), if_pos i20, e207]
        exact ⟨_, fin _ ⟨fun z => absurd z.2.1 c0, fun _ => rfl⟩, rfl⟩
  · rintro t M ⟨i1, -, -⟩
    show f12_lands_130_s k47 t M x2 g x4 x5 x6 x7 x8 x9 (nI a) (nI v) (nI ch) = _
    unfold f12_lands_130_s
    rw [i1 11 (by omega), h11, if_neg (show ¬ nI ch < nI ch by rw [q_lt (by omega) (by omega)]; omega)]
/-- the base to merge from -/
theorem s12_mergeBase {ch : Nat} {S : rv_Mem} {P : Nat → Int32} {ρ : Nat → Nat} {g : Int32} {bsf cur : Nat → Nat} {r : Nat} {x4 x5 : Int32} (hc : ch ≤ 20) (hP : parR ch S P) (hV : parV ch P) (hρ : ∀ i p, i < ch → p < ch → P i = nI p → ρ p < ρ i) (hr : r < 2) (hw : S 10 r = 2) (hcu : ∀ i, i < ch → f12_current S (nI i) = some (nI (cur i)) ∧ cur i < 82 ∧ S 2 (cur i) = nI (bsf i)) {a : Nat} (ha : a < ch) : ∃ e, e < ch ∧ endOf (cg P g) a e ∧ f12_landsOne_112 rv_FU S g (nI r) x4 x5 (nI (bsf a)) (P a) = f12_landsOne_161 S (nI r) x4 x5 (nI (bsf e)) := by
  have hVc := cg_V (x := g) hV
  have en : pch (cg P g) (nI a) 20 = NO := pch_end2 (Or.inr ⟨a, ha, rfl⟩) hc hVc (cg_ρ hc hρ)
  refine rv_ux (z := (fun _ _ _ _ _ _ _ => none)) (F := f12_landsOne_112_s) (fun t (_ : Nat) (c : Nat) => t S g (nI r) x4 x5 (nI (bsf c)) (P c)) 20 (fun k c => c < ch ∧ pch (cg P g) (nI a) k = nI c) (fun y => ∃ e, e < ch ∧ endOf (cg P g) a e ∧ y = f12_landsOne_161 S (nI r) x4 x5 (nI (bsf e))) ?_ ?_ rv_FU 0 a (Nat.zero_le _) (FU_lt (by omega)) ⟨ha, rfl⟩
  · rintro t k c hk ⟨i1, i2⟩
    show (∃ e, _ ∧ _ ∧ f12_landsOne_112_s t S g (nI r) x4 x5 (nI (bsf c)) (P c) = _) ∨ ∃ c' : Nat, _ ∧ f12_landsOne_112_s t S g (nI r) x4 x5 (nI (bsf c)) (P c) = _
    unfold f12_landsOne_112_s
    rw [if_pos (q_inb hr (by omega)), q_nc (by omega), hw, if_pos rfl, q_no]
    rcases hV c i1 with z | ⟨p, p1, p2⟩
    · left
      rw [z, if_neg (fun y => y rfl)]
      exact ⟨c, i1, ⟨k, i2, cg_out (Or.inl z)⟩, rfl⟩
    · rw [p2, if_pos (show ¬ nI p = NO by rw [q_no_eq (by omega)]; exact fun y => y), s12_isOf (by omega), o1_some]
      cases hb : bt g p with
      | false =>
        left
        rw [if_neg (by simp)]
        exact ⟨c, i1, ⟨k, i2, cg_out (Or.inr ⟨p, by omega, p2, hb⟩)⟩, rfl⟩
      | true =>
        right
        obtain ⟨u1, u2, u3⟩ := hcu p p1
        rw [if_pos rfl, u1, o1_some, if_pos (q_inb u2 (by omega)), hP p p1, o1_some, q_nc (by omega), u3]
        refine ⟨p, ⟨p1, ?_⟩, rfl⟩
        rw [pch_s, i2, if_neg (by rw [q_no_eq (by omega)]; simp), q_nc (by omega), cg_in (by omega) p2 hb]
  · rintro t c ⟨i1, i2⟩
    exfalso
    have i2 : pch (cg P g) (nI a) 20 = nI c := i2
    rw [en, q_no_eq' (by omega)] at i2; exact i2

/-! CHAINS OF PARENTS -/
def pch (f : Nat → Int32) (x : Int32) : Nat → Int32
  | 0 => x
  | d + 1 => if pch f x d = NO then NO else f (pch f x d).toNatClampNeg
theorem pch_s {f : Nat → Int32} {x : Int32} (d : Nat) : pch f x (d + 1) = if pch f x d = NO then NO else f (pch f x d).toNatClampNeg := rfl
theorem pch_shift {f : Nat → Int32} {x : Int32} : ∀ d, pch f x (d + 1) = pch f (if x = NO then NO else f x.toNatClampNeg) d
  | 0 => rfl
  | d + 1 => by rw [pch_s (d + 1), pch_shift d, ← pch_s]
theorem pch_cong {f f' : Nat → Int32} {ch : Nat} {x : Int32} (hx : x = NO ∨ ∃ g, g < ch ∧ x = nI g) (hc : ch ≤ 20) (hf : ∀ g, g < ch → f g = NO ∨ ∃ g', g' < ch ∧ f g = nI g') (he : ∀ g, g < ch → f' g = f g) : ∀ d, pch f' x d = pch f x d ∧ (pch f x d = NO ∨ ∃ g, g < ch ∧ pch f x d = nI g)
  | 0 => ⟨rfl, hx⟩
  | d + 1 => by
    obtain ⟨i1, i2⟩ := pch_cong hx hc hf he d
    rw [pch_s, pch_s, i1]
    rcases i2 with i2 | ⟨g, g1, g2⟩
    · rw [i2, if_pos rfl, if_pos rfl]
      exact ⟨rfl, Or.inl rfl⟩
    · rw [g2, if_neg (by rw [q_no_eq (by omega)]; simp), if_neg (by rw [q_no_eq (by omega)]; simp), q_nc (by omega)]
      exact ⟨he g g1, hf g g1⟩
theorem pch_no {f : Nat → Int32} {x : Int32} {d : Nat} (h : pch f x d = NO) : ∀ e, pch f x (d + e) = NO
  | 0 => h
  | e + 1 => by rw [← Nat.add_assoc, pch_s, if_pos (pch_no h e)]
theorem pch_end {f : Nat → Int32} {ch : Nat} {x : Int32} {ρ : Nat → Nat} (hx : x = NO ∨ ∃ g, g < ch ∧ x = nI g) (hc : ch ≤ 20) (hf : ∀ g, g < ch → f g = NO ∨ ∃ g', g' < ch ∧ f g = nI g') (hρ : ∀ g g', g < ch → f g = nI g' → ρ g' < ρ g) : pch f x 20 = NO := by
  apply Classical.byContradiction
  intro c
  have val : ∀ d, d ≤ 20 → ∃ g, g < ch ∧ pch f x d = nI g := fun d hd => by
    rcases (pch_cong (f' := f) hx hc hf (fun _ _ => rfl) d).2 with h | h
    · exfalso
      apply c
      have := pch_no h (20 - d)
      rw [show d + (20 - d) = 20 by omega] at this
      exact this
    · exact h
  have mono : ∀ e d, d + e ≤ 20 → ρ (pch f x (d + e)).toNatClampNeg + e ≤ ρ (pch f x d).toNatClampNeg := by
    intro e
    induction e with
    | zero => intro d _; exact Nat.le_refl _
    | succ e ih =>
      intro d hd
      have h1 := ih d (by omega)
      obtain ⟨g, g1, g2⟩ := val (d + e) (by omega)
      obtain ⟨g', g1', g2'⟩ := val (d + e + 1) (by omega)
      have st := g2'
      rw [pch_s, g2, if_neg (by rw [q_no_eq (by omega)]; simp), q_nc (by omega)] at st
      have h2 := hρ g g' g1 st
      rw [g2, q_nc (by omega)] at h1
      rw [show d + (e + 1) = d + e + 1 from rfl, g2', q_nc (by omega)]
      omega
  have := inj_le ch 21 (fun d => (pch f x d).toNatClampNeg) (fun d hd => by
    obtain ⟨g, g1, g2⟩ := val d (by omega)
    simp only [g2, q_nc (show g < 2147483648 by omega)]
    exact g1) (fun i j hi hj he => by
    have he : (pch f x i).toNatClampNeg = (pch f x j).toNatClampNeg := he
    rcases Nat.lt_trichotomy i j with h | h | h
    · have := mono (j - i) i (by omega)
      rw [show i + (j - i) = j by omega, he] at this
      omega
    · exact h
    · have := mono (i - j) j (by omega)
      rw [show j + (i - j) = i by omega, he] at this
      omega)
  omega
theorem Rn.above {n : Nat} {gh : rC_gh} {C R : rv_Mem} (hR : Rn n gh C R) {h : Nat} (hh : h < gh.1 0) {x : Int32} (hx : x = NO ∨ ∃ g, g < gh.1 0 ∧ x = nI g) : ∃ b, f11_isAtOrAbove gh C (nI h) x = some b ∧ f12_isAbove_10 R rv_FU (nI h) x false = some b ∧ (b = true ↔ ∃ d, pch (parS n R) x d = nI h) := by
  have hc := hR.ch20
  obtain ⟨⟨ρ, p1⟩, -⟩ := hR.par
  have hf : ∀ g, g < gh.1 0 → parS n R g = NO ∨ ∃ g', g' < gh.1 0 ∧ parS n R g = nI g' := fun g hg => by
    obtain ⟨y, -, -, y3, y4⟩ := hR.parent hg
    rw [y3]; exact y4
  have en := pch_end hx hc hf p1
  have val := fun d => (pch_cong (f' := parS n R) hx hc hf (fun _ _ => rfl) d).2
  have far : ∀ d, 20 ≤ d → pch (parS n R) x d = NO := fun d hd => by
    have := pch_no en (d - 20)
    rw [show 20 + (d - 20) = d by omega] at this; exact this
  have nh : ¬ NO = nI h := by rw [q_no_eq' (by omega)]; simp
  obtain ⟨b, b1⟩ : ∃ b : Bool, b = true ↔ ∃ d, pch (parS n R) x d = nI h := by
    by_cases c : ∃ d, pch (parS n R) x d = nI h
    · exact ⟨true, fun _ => c, fun _ => rfl⟩
    · exact ⟨false, fun z => (by cases z), fun z => absurd z c⟩
  have bF : (∀ d, pch (parS n R) x d ≠ nI h) → b = false := fun z => by
    cases b with
    | false => rfl
    | true => obtain ⟨d, hd⟩ := b1.mp rfl; exact absurd hd (z d)
  have bT : ∀ d, pch (parS n R) x d = nI h → b = true := fun d hd => b1.mpr ⟨d, hd⟩
  refine ⟨b, ?_, ?_, b1⟩
  · refine rv_ux (z := (fun _ _ _ => none)) (F := f11_isAtOrAbove_5_s gh C) (fun t k (y : Int32) => t (nI h) y (nI k)) 21 (fun k y => y = pch (parS n R) x k ∧ ∀ d, d < k → pch (parS n R) x d ≠ nI h) (fun r => r = some b) ?_ ?_ rv_FU 0 x (Nat.zero_le _) (FU_lt (by omega)) ⟨rfl, fun _ z => absurd z (Nat.not_lt_zero _)⟩
    · rintro t k y hk ⟨rfl, i2⟩
      show f11_isAtOrAbove_5_s gh C t (nI h) (pch (parS n R) x k) (nI k) = some b ∨ ∃ a', _ ∧ f11_isAtOrAbove_5_s gh C t (nI h) (pch (parS n R) x k) (nI k) = _
      unfold f11_isAtOrAbove_5_s
      rw [if_pos (by rw [q_20, q_le (by omega) (by omega)]; omega), q_no]
      rcases val k with v | ⟨g, g1, g2⟩
      · left
        rw [v, if_neg (fun z => z rfl), bF (fun d => ?_)]
        by_cases hd : d < k
        · exact i2 d hd
        · have := pch_no v (d - k)
          rw [show k + (d - k) = d by omega] at this
          rw [this]; exact nh
      · rw [g2, if_pos (by rw [q_no_eq (by omega)]; exact fun z => z)]
        by_cases c : g = h
        · left
          subst c
          rw [if_pos rfl, bT k g2]
        · right
          rw [if_neg (by rw [q_eq (by omega) (by omega)]; exact c)]
          obtain ⟨y, y1, -, y3, -⟩ := hR.parent g1
          rw [y1, o1_some, q_succ]
          refine ⟨y, ⟨?_, fun d hd => ?_⟩, rfl⟩
          · rw [pch_s, g2, if_neg (by rw [q_no_eq (by omega)]; simp), q_nc (by omega), y3]
          · by_cases e : d = k
            · subst e; rw [g2, Ne, q_eq (by omega) (by omega)]; exact c
            · exact i2 d (by omega)
    · rintro t y ⟨-, i2⟩
      show f11_isAtOrAbove_5_s gh C t (nI h) y (nI 21) = some b
      unfold f11_isAtOrAbove_5_s
      rw [if_neg (by rw [q_20, q_le (by omega) (by omega)]; omega), bF (fun d => ?_)]
      by_cases hd : d < 21
      · exact i2 d hd
      · rw [far d (by omega)]; exact nh
  · refine rv_ux (z := (fun _ _ _ => none)) (F := f12_isAbove_10_s R) (fun t (_ : Nat) (q : Int32 × Bool) => t (nI h) q.1 q.2) 30 (fun k q => q.1 = pch (parS n R) x k ∧ (q.2 = true ↔ ∃ d, d < k ∧ pch (parS n R) x d = nI h)) (fun r => r = some b) ?_ ?_ rv_FU 0 (x, false) (Nat.zero_le _) (FU_lt (by omega)) ⟨rfl, fun z => (by cases z), fun ⟨d, hd, _⟩ => absurd hd (Nat.not_lt_zero _)⟩
    · rintro t k ⟨y, w⟩ hk ⟨i1, i2⟩
      have i1 : y = pch (parS n R) x k := i1
      have i2 : w = true ↔ ∃ d, d < k ∧ pch (parS n R) x d = nI h := i2
      subst i1
      show f12_isAbove_10_s R t (nI h) (pch (parS n R) x k) w = some b ∨ ∃ a' : Int32 × Bool, _ ∧ f12_isAbove_10_s R t (nI h) (pch (parS n R) x k) w = _
      unfold f12_isAbove_10_s f12_isAbove_30
      rw [q_no]
      rcases val k with v | ⟨g, g1, g2⟩
      · left
        rw [v, if_neg (fun z => z rfl)]
        cases w with
        | true =>
          obtain ⟨d, -, hd⟩ := i2.mp rfl
          rw [bT d hd]
        | false =>
          rw [bF (fun d hd2 => ?_)]
          by_cases hd : d < k
          · have := i2.mpr ⟨d, hd, hd2⟩; cases this
          · have := pch_no v (d - k)
            rw [show k + (d - k) = d by omega, hd2] at this
            exact nh this.symm
      · rw [g2, if_pos (by rw [q_no_eq (by omega)]; exact fun z => z)]
        cases w with
        | true =>
          left
          obtain ⟨d, -, hd⟩ := i2.mp rfl
          rw [if_neg (by simp), bT d hd]
        | false =>
          right
          rw [if_pos rfl]
          obtain ⟨y, -, y2, y3, -⟩ := hR.parent g1
          rw [y2, o1_some, o1_some]
          have nx : y = pch (parS n R) x (k + 1) := by
            rw [pch_s, g2, if_neg (by rw [q_no_eq (by omega)]; simp), q_nc (by omega), y3]
          by_cases c : g = h
          · subst c
            rw [if_pos rfl]
            exact ⟨(y, true), ⟨nx, fun _ => ⟨k, by omega, g2⟩, fun _ => rfl⟩, rfl⟩
          · rw [if_neg (by rw [q_eq (by omega) (by omega)]; exact c)]
            refine ⟨(y, false), ⟨nx, fun z => (by cases z), fun ⟨d, hd, hd2⟩ => ?_⟩, rfl⟩
            by_cases e : d = k
            · subst e; rw [g2, q_eq (by omega) (by omega)] at hd2; exact absurd hd2 c
            · exact i2.mpr ⟨d, by omega, hd2⟩
    · rintro t ⟨y, w⟩ ⟨i1, i2⟩
      have i2 : w = true ↔ ∃ d, d < 30 ∧ pch (parS n R) x d = nI h := i2
      have i1 : y = NO := i1.trans (far 30 (by omega))
      subst i1
      show f12_isAbove_10_s R t (nI h) NO w = some b
      unfold f12_isAbove_10_s
      rw [q_no, if_neg (fun z => z rfl)]
      cases w with
      | true =>
        obtain ⟨d, -, hd⟩ := i2.mp rfl
        rw [bT d hd]
      | false =>
        rw [bF (fun d hd2 => ?_)]
        by_cases hd : d < 30
        · have := i2.mpr ⟨d, hd, hd2⟩; cases this
        · rw [far d (by omega)] at hd2; exact nh hd2
theorem put_A_par {n h k p : Nat} {gh gh' : rC_gh} {C R R' : rv_Mem} (hR : Rn (n + 1) gh C R) (hn : 2 ≤ n) (h5 : R 5 n = NO) (hG : putG h k (gh.1 0) (gh'.1 0) R) (hP : putR n h k (gh'.1 0) R R' p) (ht : ∀ r, r < 2 → R 9 r ≠ nI n) (hop : h < gh.1 0 → R 13 h ≠ nI 1) (hno : ∀ d, pch (parS (n + 1) R) (R 5 (R 2 n).toNatClampNeg) d ≠ nI h) : A_par (n + 1) (gh'.1 0) R' := by
  have hc := hR.ch20
  have hn80 := hR.n80
  obtain ⟨q1, q2⟩ := put_par hR hn rfl h5 hG hP
  obtain ⟨⟨ρ, p1⟩, F, f1, f2⟩ := hR.par
  have hle : gh.1 0 ≤ gh'.1 0 ∧ gh'.1 0 ≤ 20 ∧ h < gh'.1 0 ∧ (∀ x, x < gh'.1 0 → x ≠ h → x < gh.1 0) := by
    rcases hG with ⟨a, b, c, d⟩ | ⟨a, b, c, d⟩
    · exact ⟨by omega, by omega, by omega, fun x h1 h2 => by omega⟩
    · exact ⟨by omega, by omega, by omega, fun x h1 h2 => by omega⟩
  obtain ⟨P1, P2, P3, -⟩ := hP
  have hf : ∀ g, g < gh.1 0 → parS (n + 1) R g = NO ∨ ∃ g', g' < gh.1 0 ∧ parS (n + 1) R g = nI g' := fun g hg => by
    obtain ⟨y, -, -, y3, y4⟩ := hR.parent hg
    rw [y3]; exact y4
  constructor
  · classical
    refine ⟨fun x => if x < gh'.1 0 then ρ x + (if ∃ d, pch (parS (n + 1) R) (nI x) d = nI h then ρ (R 5 (R 2 n).toNatClampNeg).toNatClampNeg + 1 else 0) else 0, fun x g hx hp => ?_⟩
    have big : ∀ y, y < gh'.1 0 → (if y < gh'.1 0 then ρ y + (if ∃ d, pch (parS (n + 1) R) (nI y) d = nI h then ρ (R 5 (R 2 n).toNatClampNeg).toNatClampNeg + 1 else 0) else 0) = ρ y + (if ∃ d, pch (parS (n + 1) R) (nI y) d = nI h then ρ (R 5 (R 2 n).toNatClampNeg).toNatClampNeg + 1 else 0) := fun y hy => if_pos hy
    have big0 : ∀ y, ¬ y < gh'.1 0 → (if y < gh'.1 0 then ρ y + (if ∃ d, pch (parS (n + 1) R) (nI y) d = nI h then ρ (R 5 (R 2 n).toNatClampNeg).toNatClampNeg + 1 else 0) else 0) = 0 := fun y hy => if_neg hy
    show (if g < gh'.1 0 then ρ g + (if ∃ d, pch (parS (n + 1) R) (nI g) d = nI h then ρ (R 5 (R 2 n).toNatClampNeg).toNatClampNeg + 1 else 0) else 0) < (if x < gh'.1 0 then ρ x + (if ∃ d, pch (parS (n + 1) R) (nI x) d = nI h then ρ (R 5 (R 2 n).toNatClampNeg).toNatClampNeg + 1 else 0) else 0)
    rw [big x hx]
    by_cases ex : x = h
    · subst ex
      rw [q2] at hp
      rw [hp] at hno
      rw [if_pos (show ∃ d, pch (parS (n + 1) R) (nI x) d = nI x from ⟨0, rfl⟩)]
      by_cases hg : g < gh'.1 0
      · rw [big g hg, if_neg (fun ⟨d, hd⟩ => hno d hd), hp, q_nc (by omega)]
        omega
      · rw [big0 g hg]; omega
    · have hx' := hle.2.2.2 x hx ex
      rw [q1 x hx' ex] at hp
      have hlt := p1 x g hx' hp
      have iff : (∃ d, pch (parS (n + 1) R) (nI x) d = nI h) ↔ ∃ d, pch (parS (n + 1) R) (nI g) d = nI h := by
        have sh : ∀ d, pch (parS (n + 1) R) (nI x) (d + 1) = pch (parS (n + 1) R) (nI g) d := fun d => by
          rw [pch_shift, if_neg (by rw [q_no_eq (by omega)]; simp), q_nc (by omega), hp]
        constructor
        · rintro ⟨d, hd⟩
          cases d with
          | zero =>
            have hd : nI x = nI h := hd
            rw [q_eq (by omega) (by omega)] at hd; exact absurd hd ex
          | succ d => exact ⟨d, by rw [← sh]; exact hd⟩
        · rintro ⟨d, hd⟩
          exact ⟨d + 1, by rw [sh]; exact hd⟩
      by_cases hg : g < gh'.1 0
      · rw [big g hg]
        by_cases c : ∃ d, pch (parS (n + 1) R) (nI g) d = nI h
        · rw [if_pos c, if_pos (iff.mpr c)]; omega
        · rw [if_neg c, if_neg (fun z => c (iff.mp z))]; omega
      · rw [big0 g hg]; omega
  · refine ⟨fun g => F g ∧ g < gh.1 0, fun r g hr hg htp => ?_, fun g hg => ?_⟩
    · obtain ⟨⟨t, t1, t2, t3, t4⟩, -⟩ := hR.tip r hr
      have htn : t ≠ n := fun z => ht r hr (by rw [t3, z])
      rw [P1 9 (by omega) (by omega) (by omega) (by omega) (by omega) (by omega) (by omega) (by omega) (by omega), t3, q_nc (by omega), P2 5 t (by omega) (by omega) htn] at htp
      have hgc : g < gh.1 0 := by
        rcases hR.own t t1 with ⟨-, z⟩ | ⟨y, s, p, o1, -, -, o3, -⟩
        · rw [z, q_no_eq' (by omega)] at htp; exact htp.elim
        · rw [o3, q_eq (by omega) (by omega)] at htp; omega
      exact ⟨f1 r g hr hgc (by rw [t3, q_nc (by omega)]; exact htp), hgc⟩
    · obtain ⟨z1, z2⟩ := f2 g hg.1
      have hgh : g ≠ h := fun z => hop (by omega) (by rw [← z]; exact z1)
      refine ⟨by rw [P3 13 g (by omega) hgh]; exact z1, fun g' hg' hp => ?_⟩
      rw [q1 g hg.2 hgh] at hp
      rcases hf g hg.2 with z | ⟨y, y1, y2⟩
      · rw [z, q_no_eq' (by omega)] at hp; exact hp.elim
      · rw [y2, q_eq (by omega) (by omega)] at hp
        subst hp
        exact ⟨z2 y y1 y2, y1⟩

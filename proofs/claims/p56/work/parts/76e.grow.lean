/-! WHAT HOLDS ALL ALONG, AFTER A NEW PATCH SET OF AN OPEN CHANGE -/
section
variable {n n' : Nat} {gh gh' : rC_gh} {C C' R R' M M' A A' : rv_Mem}
theorem revB_grow {cm : Nat} {r5 r5' r12 r19 r22 r25 r26 r32 : Nat → Int32} {h i : Nat} (e5 : ∀ c, c < n → r5' c = r5 c) (hb : revB n cm r5 r12 r19 r22 r25 r26 r32 h i = true) : revB (n + 1) cm r5' r12 r19 r22 r25 r26 r32 h i = true := by
  unfold revB at hb ⊢
  obtain ⟨b1, b2⟩ := Bool.and_eq_true_iff.mp hb
  refine Bool.and_eq_true_iff.mpr ⟨b1, ?_⟩
  rcases Bool.or_eq_true_iff.mp b2 with b2 | b2
  · exact Bool.or_eq_true_iff.mpr (Or.inl b2)
  · obtain ⟨c, hc, b3⟩ := List.any_eq_true.mp b2
    have hc2 := List.mem_range.mp hc
    refine Bool.or_eq_true_iff.mpr (Or.inr (List.any_eq_true.mpr ⟨c, List.mem_range.mpr (by omega), ?_⟩))
    rw [e5 c hc2]
    exact b3
theorem JI_up {R2 C2 : rv_Mem} {h k : Nat} (hR : Rn n gh C R) (hR2 : Rn (n + 1) gh C2 R2) (J : JI n gh R A) (hh : h < gh.1 0) (ho : R 13 h = nI 0) (hk : R 14 h = nI k) (hk80 : k ≤ 80)
    {p : Nat} (F : xF n h k p R R2) : JI (n + 1) gh R2 A := by
  obtain ⟨f1, f2, f3, f4, f5, f6, f7⟩ := F
  have hn2 := hR.cnt.1.1
  have hn80 := hR.n80
  have hc := hR.ch20
  have w := fun q (a : 9 ≤ q) (b : q < 53) (c : q ≠ 14) (d : q ≠ 20) (e : q ≠ 21) (g : q ≠ 51) => f1 q a b c d e g
  have k9 := w 9 (by omega) (by omega) (by omega) (by omega) (by omega) (by omega)
  have k12 := w 12 (by omega) (by omega) (by omega) (by omega) (by omega) (by omega)
  have k13 := w 13 (by omega) (by omega) (by omega) (by omega) (by omega) (by omega)
  have k15 := w 15 (by omega) (by omega) (by omega) (by omega) (by omega) (by omega)
  have k16 := w 16 (by omega) (by omega) (by omega) (by omega) (by omega) (by omega)
  have k17 := w 17 (by omega) (by omega) (by omega) (by omega) (by omega) (by omega)
  have k18 := w 18 (by omega) (by omega) (by omega) (by omega) (by omega) (by omega)
  have w2 : ∀ q, 9 ≤ q → q < 50 → q ≠ 14 → q ≠ 20 → q ≠ 21 → R2 q = R q := fun q a b c d e => f1 q a (by omega) c d e (by omega)
  have o5 : ∀ c, c < n → R2 5 c = R 5 c := fun c hc => (f4 c (by omega)).2.1
  have o6 : ∀ c, c < n → R2 6 c = R 6 c := fun c hc => (f4 c (by omega)).2.2
  have hcur : ∀ g, g < gh.1 0 → g ≠ h → curS (n + 1) R2 g = curS n R g := fun g hg hgh => by
    unfold curS
    rw [(f6 g hgh).1]
    exact mAt_ge o5 o6 (fun z => by
      have z1 := z.1
      rw [f2, q_eq (by omega) (by omega)] at z1
      omega)
  have hrv : ∀ g, g < gh.1 0 → ∀ i, i < 32 → bt (rvS R g) i = true → bt (rvS R2 g) i = true := fun g hg i hi hb => by
    rw [rvS_bt hR hg hi] at hb
    rw [rvS_bt hR2 hg hi, k12, w2 19 (by omega) (by omega) (by omega) (by omega) (by omega), w2 22 (by omega) (by omega) (by omega) (by omega) (by omega), w2 25 (by omega) (by omega) (by omega) (by omega) (by omega), w2 26 (by omega) (by omega) (by omega) (by omega) (by omega), w2 32 (by omega) (by omega) (by omega) (by omega) (by omega)]
    exact revB_grow o5 hb
  have hfl : ∀ g, flN R2 g = flN R g := fun g => by unfold flN; rw [k15, k16]
  have henc : ∀ j, enc R2 j = enc R j := fun j => by
    unfold enc
    rw [w2 26 (by omega) (by omega) (by omega) (by omega) (by omega), w2 27 (by omega) (by omega) (by omega) (by omega) (by omega), w2 28 (by omega) (by omega) (by omega) (by omega) (by omega), w2 29 (by omega) (by omega) (by omega) (by omega) (by omega), w2 30 (by omega) (by omega) (by omega) (by omega) (by omega)]
  have oldA : ∀ g, g < gh.1 0 → ∀ i, i < 32 → bt (R 20 g) i = true → R2 12 g = nI i ∨ bt (rvS R2 g) i = true := fun g hg i hi hb => by
    rw [k12]
    rcases J.turnA g hg i hi hb with z | z
    · exact Or.inl z
    · exact Or.inr (hrv g hg i hi z)
  have sk : ∀ c, c < n → R 5 c = nI h → ∀ s, s < 80 → R 6 c = nI s → s < k := fun c hc' z s hs z6 => by
    rcases hR.own c hc' with ⟨-, z2⟩ | ⟨h', s', p, a1, a2, a3, a4, a5, a6, -⟩
    · rw [z2, q_no_eq' (by omega)] at z; exact z.elim
    · rw [a4, q_eq (by omega) (by omega)] at z
      subst z
      rw [hk, q_nc (by omega)] at a6
      rw [a5, q_eq (by omega) (by omega)] at z6
      omega
  refine ⟨⟨?_, ?_⟩, by rw [w2 45 (by omega) (by omega) (by omega) (by omega) (by omega)]; exact J.r45, by rw [w2 46 (by omega) (by omega) (by omega) (by omega) (by omega)]; exact J.r46, by rw [w2 47 (by omega) (by omega) (by omega) (by omega) (by omega)]; exact J.r47, by rw [w2 48 (by omega) (by omega) (by omega) (by omega) (by omega)]; exact J.r48, by rw [w2 49 (by omega) (by omega) (by omega) (by omega) (by omega)]; exact J.r49, J.ch8, fun r g hr hg z => ?_, fun g hg z1 z2 => ?_, fun c c' g s s' hc1 hc2 hg hs hs' x1 x2 x3 x4 hlt => ?_, fun g hg i hi hb => ?_, fun g hg => ?_, fun g hg => ?_, fun g hg => ?_, fun g hg => ?_, fun g h1 h2 => J.cN g h1 h2, J.pA, fun j hj => ?_, fun z => by omega⟩
  · rw [(f4 0 (by omega)).1]; exact J.j1.1
  · rw [(f4 1 (by omega)).1]; exact J.j1.2
  · obtain ⟨⟨t, t1, -, t2, -⟩, -⟩ := hR.tip r hr
    have ht : (R 9 r).toNatClampNeg = t := by rw [t2, q_nc (by omega)]
    rw [k9, ht, o5 t t1] at z
    have y := J.tips r g hr hg (by rw [ht]; exact z)
    have hgh : g ≠ h := fun e => by
      subst e
      have := y.1
      rw [ho, q_eq (by omega) (by omega)] at this
      omega
    rw [k13, k9, hcur g hg hgh]
    exact y
  · rw [k13] at z1
    have hgh : g ≠ h := fun e => by
      subst e
      rw [ho, q_eq (by omega) (by omega)] at z1
      omega
    obtain ⟨-, -, ⟨_, -, -, -, a5⟩, -⟩ := hR.chg g hg
    obtain ⟨c, c1, -, c3, -⟩ := a5 z1
    have hcl : (R 18 g).toNatClampNeg = c := by rw [c3, q_nc (by omega)]
    rw [k18, hcl, o5 c c1] at z2
    rw [k18, hcur g hg hgh]
    exact J.lw g hg z1 (by rw [hcl]; exact z2)
  · by_cases e : c = n
    · subst e
      rw [f2, q_eq (by omega) (by omega)] at x1
      subst x1
      rw [f3, q_eq (by omega) (by omega)] at x3
      subst x3
      by_cases e' : c' = c
      · subst e'
        rw [f3, q_eq (by omega) (by omega)] at x4
        omega
      · rw [o5 c' (by omega)] at x2
        rw [o6 c' (by omega)] at x4
        have := sk c' (by omega) x2 s' hs' x4
        omega
    · by_cases e' : c' = n
      · omega
      · rw [o5 c (by omega)] at x1
        rw [o5 c' (by omega)] at x2
        rw [o6 c (by omega)] at x3
        rw [o6 c' (by omega)] at x4
        exact J.mono c c' g s s' (by omega) (by omega) hg hs hs' x1 x2 x3 x4 hlt
  · by_cases e : g = h
    · subst e
      rcases (f7 i hi hb).2 with z | z
      · exact oldA g hg i hi z
      · exact z.2.2.1
    · rw [(f6 g e).2] at hb
      exact oldA g hg i hi hb
  · by_cases e : g = h
    · subst e
      cases e15 : rv_z (R 15 g) with
      | false => right; rw [k13, k15]; exact ⟨ho, e15⟩
      | true =>
        left
        have r20 : R 20 g = 0 := by
          rcases J.turnB g hg with z | z
          · exact z
          · rw [e15] at z; cases z.2
        apply b_ext
        intro i hi
        rw [b_0]
        cases eb : bt (R2 20 g) i with
        | false => rfl
        | true =>
          rcases (f7 i hi eb).2 with z | z
          · rw [r20, b_0] at z; cases z
          · rw [e15] at z; cases z.2.1
    · rw [(f6 g e).2, k13, k15]; exact J.turnB g hg
  · rw [k12]; exact J.cA0 g hg
  · rw [hfl]; exact J.cA1 g hg
  · rw [k17]; exact J.cA2 g hg
  · rw [henc]; exact J.qA j hj
end

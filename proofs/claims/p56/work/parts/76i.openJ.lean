/-! A CHANGE IS OPENED, AND WHAT HOLDS -/
section
variable {n n' : Nat} {gh gh' : rC_gh} {C C' R R' M M' A A' : rv_Mem}
theorem JI_open {C2 R2 S : rv_Mem} {p : Nat} (hR : Rn n gh C R) (hR2 : Rn (n + 1) (rC_gi gh 0 0) C2 R2) (J : JI n gh R A) (c8 : gh.1 0 < 8) (s1 : ∀ q, q ≠ 66 → ¬ (q = 11 ∨ q = 12 ∨ q = 13 ∨ q = 14 ∨ q = 17) → S q = R q) (s2 : ∀ q x, (q = 12 ∨ q = 13 ∨ q = 14 ∨ q = 17) → x ≠ gh.1 0 → S q x = R q x) (s12 : S 12 (gh.1 0) = nI p) (s13 : S 13 (gh.1 0) = 0) (s17 : S 17 (gh.1 0) = NO) (F : xF n (gh.1 0) 0 p S R2) :
    rvS R2 (gh.1 0) = 0 ∧ R2 20 (gh.1 0) = 0 ∧ JI (n + 1) (rC_gi gh 0 0) R2 (rv_u A 0 (4 * gh.1 0) (nI p)) := by
  have hgh : (rC_gi gh 0 0).1 0 = gh.1 0 + 1 := rfl
  have hg1 : (rC_gi gh 0 0).1 1 = gh.1 1 := rfl
  obtain ⟨f1, f2, f3, f4, f5, f6, f7⟩ := F
  have hn2 := hR.cnt.1.1
  have hn80 := hR2.n80
  have hc := hR.ch20
  have w : ∀ q, 9 ≤ q → q < 53 → ¬ (q = 11 ∨ q = 12 ∨ q = 13 ∨ q = 14 ∨ q = 17) → q ≠ 20 → q ≠ 21 → q ≠ 51 → R2 q = R q := fun q a b c d e g => by rw [f1 q a b (by omega) d e g, s1 q (by omega) c]
  have w3 : ∀ q x, q = 12 ∨ q = 13 ∨ q = 17 → x ≠ gh.1 0 → R2 q x = R q x := fun q x hq hx => by rw [f1 q (by omega) (by omega) (by omega) (by omega) (by omega) (by omega), s2 q x (by omega) hx]
  have w14 : ∀ x, x ≠ gh.1 0 → R2 14 x = R 14 x := fun x hx => by rw [(f6 x hx).1, s2 14 x (by omega) hx]
  have w20 : ∀ x, x ≠ gh.1 0 → R2 20 x = R 20 x := fun x hx => by rw [(f6 x hx).2, s1 20 (by omega) (by omega)]
  have o1 : ∀ c, c < n → R2 1 c = R 1 c := fun c hc => by rw [(f4 c (by omega)).1, s1 1 (by omega) (by omega)]
  have o5 : ∀ c, c < n → R2 5 c = R 5 c := fun c hc => by rw [(f4 c (by omega)).2.1, s1 5 (by omega) (by omega)]
  have o6 : ∀ c, c < n → R2 6 c = R 6 c := fun c hc => by rw [(f4 c (by omega)).2.2, s1 6 (by omega) (by omega)]
  have e12 : R2 12 (gh.1 0) = nI p := by rw [f1 12 (by omega) (by omega) (by omega) (by omega) (by omega) (by omega), s12]
  have e13 : R2 13 (gh.1 0) = nI 0 := by rw [f1 13 (by omega) (by omega) (by omega) (by omega) (by omega) (by omega), s13]; rfl
  have e17 : R2 17 (gh.1 0) = NO := by rw [f1 17 (by omega) (by omega) (by omega) (by omega) (by omega) (by omega), s17]
  have k9 := w 9 (by omega) (by omega) (by omega) (by omega) (by omega) (by omega)
  have k15 := w 15 (by omega) (by omega) (by omega) (by omega) (by omega) (by omega)
  have k16 := w 16 (by omega) (by omega) (by omega) (by omega) (by omega) (by omega)
  have k18 := w 18 (by omega) (by omega) (by omega) (by omega) (by omega) (by omega)
  have k19 := w 19 (by omega) (by omega) (by omega) (by omega) (by omega) (by omega)
  have k22 := w 22 (by omega) (by omega) (by omega) (by omega) (by omega) (by omega)
  have k25 := w 25 (by omega) (by omega) (by omega) (by omega) (by omega) (by omega)
  have k26 := w 26 (by omega) (by omega) (by omega) (by omega) (by omega) (by omega)
  have k32 := w 32 (by omega) (by omega) (by omega) (by omega) (by omega) (by omega)
  obtain ⟨nw15, nw16, nw19, nw20⟩ := hR.nw (gh.1 0) (Nat.le_refl _) (by omega)
  have val : ∀ c, c < n → R 5 c = NO ∨ ∃ g, g < gh.1 0 ∧ R 5 c = nI g := fun c hc => by
    rcases hR.own c hc with ⟨-, z⟩ | ⟨g, s', p', a1, -, -, a3, -⟩
    · exact Or.inl z
    · exact Or.inr ⟨g, a1, a3⟩
  have own5 : ∀ c, c < n → ∀ g, g < 20 → R 5 c = nI g → g < gh.1 0 := fun c hc g hg z => by
    rcases val c hc with y | ⟨g', y1, y2⟩
    · rw [y, q_no_eq' (by omega)] at z; exact z.elim
    · rw [y2, q_eq (by omega) (by omega)] at z; omega
  have hcur : ∀ g, g < gh.1 0 → curS (n + 1) R2 g = curS n R g := fun g hg => by
    unfold curS
    rw [w14 g (by omega)]
    exact mAt_ge o5 o6 (fun z => by
      have z1 := z.1
      rw [f2, q_eq (by omega) (by omega)] at z1
      omega)
  have hrv : ∀ g, g < gh.1 0 → ∀ i, i < 32 → bt (rvS R g) i = true → bt (rvS R2 g) i = true := fun g hg i hi hb => by
    rw [rvS_bt hR hg hi] at hb
    have e : revB (n + 1) (gh.1 1) (R2 5) (R2 12) (R 19) (R 22) (R 25) (R 26) (R 32) g i = revB (n + 1) (gh.1 1) (R2 5) (R 12) (R 19) (R 22) (R 25) (R 26) (R 32) g i := by
      unfold revB
      rw [w3 12 g (by omega) (by omega)]
    rw [rvS_bt hR2 (show g < (rC_gi gh 0 0).1 0 by omega) hi, hg1, k19, k22, k25, k26, k32, e]
    exact revB_grow o5 hb
  have rv0 : rvS R2 (gh.1 0) = 0 := by
    rw [b_zero]
    intro i hi
    rw [rvS_bt hR2 (show gh.1 0 < (rC_gi gh 0 0).1 0 by omega) hi, hg1, k19, k22, k25, k26, k32]
    have z1 : (List.range (gh.1 1)).any (fun k => decide (R 26 k = nI (gh.1 0)) && !rv_z (R 32 k) && decide (R 25 k = nI i)) = false := by
      rw [List.any_eq_false]
      intro k hk
      obtain ⟨-, -, -, -, -, g, s', f, a, k', d1, -, -, -, -, d6, -⟩ := hR.cmt k (List.mem_range.mp hk)
      have : decide (R 26 k = nI (gh.1 0)) = false := decide_eq_false (by rw [d6, q_eq (by omega) (by omega)]; omega)
      rw [this]; simp
    have z2 : (List.range (n + 1)).any (fun c => decide (R2 5 c = nI (gh.1 0)) && decide (i < 6) && (decide (R 22 (12 * c + 2 * i) ≠ 0) || decide (R 22 (12 * c + 2 * i + 1) ≠ 0))) = false := by
      rw [List.any_eq_false]
      intro c hc
      have hc2 := List.mem_range.mp hc
      by_cases e : c = n
      · subst e
        by_cases h6 : i < 6
        · have v0 := fun l (hl : l < 2) => (hR.vot.1 c l i (by omega) hl h6)
          rcases v0 0 (by omega) with ⟨v, -⟩ | ⟨v, -⟩
          · rcases v0 1 (by omega) with ⟨u, -⟩ | ⟨u, -⟩
            · rw [Nat.add_zero] at v
              have v : R 22 (12 * c + 2 * i) = 0 := v
              have u : R 22 (12 * c + 2 * i + 1) = 0 := u
              rw [v, u]; simp
            · omega
          · omega
        · simp [h6]
      · have hcn : c < n := by omega
        have : decide (R2 5 c = nI (gh.1 0)) = false := decide_eq_false (fun z => by
          rw [o5 c hcn] at z
          have := own5 c hcn (gh.1 0) (by omega) z
          omega)
        rw [this]; simp
    unfold revB
    rw [z1, z2, nw19, b_0]
    simp
  have t0 : R2 20 (gh.1 0) = 0 := by
    rw [b_zero]
    intro i hi
    cases hb : bt (R2 20 (gh.1 0)) i with
    | false => rfl
    | true =>
      rcases (f7 i hi hb).2 with z | z
      · rw [s1 20 (by omega) (by omega), nw20, b_0] at z; cases z
      · have y := z.2.2.2 e12
        rw [rv0, b_0] at y; cases y
  have hfl : ∀ g, flN R2 g = flN R g := fun g => by unfold flN; rw [k15, k16]
  have henc : ∀ j, enc R2 j = enc R j := fun j => by
    unfold enc
    rw [w 26 (by omega) (by omega) (by omega) (by omega) (by omega) (by omega), w 27 (by omega) (by omega) (by omega) (by omega) (by omega) (by omega), w 28 (by omega) (by omega) (by omega) (by omega) (by omega) (by omega), w 29 (by omega) (by omega) (by omega) (by omega) (by omega) (by omega), w 30 (by omega) (by omega) (by omega) (by omega) (by omega) (by omega)]
  have flZ : flN R (gh.1 0) = 0 := by
    simp [flN, nw15, nw16]
  have aO : ∀ j, j ≠ 4 * gh.1 0 → rv_u A 0 (4 * gh.1 0) (nI p) 0 j = A 0 j := fun j hj => mu_ne2 hj
  obtain ⟨n1, n2⟩ := J.cN (gh.1 0) (Nat.le_refl _) c8
  have cases1 : ∀ g, g < (rC_gi gh 0 0).1 0 → g = gh.1 0 ∨ g < gh.1 0 := fun g hg => by rw [hgh] at hg; omega
  refine ⟨rv0, t0, ?_⟩
  refine ⟨⟨?_, ?_⟩, by rw [w 45 (by omega) (by omega) (by omega) (by omega) (by omega) (by omega)]; exact J.r45, by rw [w 46 (by omega) (by omega) (by omega) (by omega) (by omega) (by omega)]; exact J.r46, by rw [w 47 (by omega) (by omega) (by omega) (by omega) (by omega) (by omega)]; exact J.r47, by rw [w 48 (by omega) (by omega) (by omega) (by omega) (by omega) (by omega)]; exact J.r48, by rw [w 49 (by omega) (by omega) (by omega) (by omega) (by omega) (by omega)]; exact J.r49, by rw [hgh]; omega, fun r g hr hg z => ?_, fun g hg z1 z2 => ?_, fun c c' g s s' hc1 hc2 hg hs hs' x1 x2 x3 x4 hlt => ?_, fun g hg i hi hb => ?_, fun g hg => ?_, fun g hg => ?_, fun g hg => ?_, fun g hg => ?_, fun g h1 h2 => ?_, ?_, fun j hj => ?_, fun z => by rw [hgh] at z; omega⟩
  · rw [o1 0 (by omega)]; exact J.j1.1
  · rw [o1 1 (by omega)]; exact J.j1.2
  · obtain ⟨⟨t, t1, -, t2, -⟩, -⟩ := hR.tip r hr
    have ht : (R 9 r).toNatClampNeg = t := by rw [t2, q_nc (by omega)]
    rw [k9, ht, o5 t t1] at z
    have hg2 : g < gh.1 0 := own5 t t1 g (by rw [hgh] at hg; omega) z
    have y := J.tips r g hr hg2 (by rw [ht]; exact z)
    rw [w3 13 g (by omega) (by omega), k9, hcur g hg2]
    exact y
  · rcases cases1 g hg with e | hg2
    · rw [e, e13, q_eq (by omega) (by omega)] at z1; omega
    · rw [w3 13 g (by omega) (by omega)] at z1
      obtain ⟨-, -, ⟨_, -, -, -, a5⟩, -⟩ := hR.chg g hg2
      obtain ⟨c, c1, -, c3, -⟩ := a5 z1
      have hcl : (R 18 g).toNatClampNeg = c := by rw [c3, q_nc (by omega)]
      rw [k18, hcl, o5 c c1] at z2
      rw [k18, hcur g hg2]
      exact J.lw g hg2 z1 (by rw [hcl]; exact z2)
  · by_cases e : c = n
    · subst e
      rw [f2, q_eq (by omega) (by omega)] at x1
      by_cases e' : c' = c
      · subst e'
        rw [x3, q_eq (by omega) (by omega)] at x4
        omega
      · rw [o5 c' (by omega)] at x2
        have := own5 c' (by omega) g hg x2
        omega
    · by_cases e' : c' = n
      · omega
      · rw [o5 c (by omega)] at x1
        rw [o5 c' (by omega)] at x2
        rw [o6 c (by omega)] at x3
        rw [o6 c' (by omega)] at x4
        exact J.mono c c' g s s' (by omega) (by omega) hg hs hs' x1 x2 x3 x4 hlt
  · rcases cases1 g hg with e | hg2
    · rw [e, t0, b_0] at hb; cases hb
    · rw [w20 g (by omega)] at hb
      rw [w3 12 g (by omega) (by omega)]
      rcases J.turnA g hg2 i hi hb with z | z
      · exact Or.inl z
      · exact Or.inr (hrv g hg2 i hi z)
  · rcases cases1 g hg with e | hg2
    · exact Or.inl (by rw [e]; exact t0)
    · rw [w20 g (by omega), w3 13 g (by omega) (by omega), k15]; exact J.turnB g hg2
  · rcases cases1 g hg with e | hg2
    · rw [e, mu_same, e12]
    · rw [aO _ (by omega), w3 12 g (by omega) (by omega)]; exact J.cA0 g hg2
  · rw [hfl]
    rcases cases1 g hg with e | hg2
    · rw [e, aO _ (by omega), n1, flZ]; rfl
    · rw [aO _ (by omega)]; exact J.cA1 g hg2
  · rcases cases1 g hg with e | hg2
    · rw [e, aO _ (by omega), n2, e17]; rfl
    · rw [aO _ (by omega), w3 17 g (by omega) (by omega)]; exact J.cA2 g hg2
  · rw [hgh] at h1
    rw [aO _ (by omega), aO _ (by omega)]
    exact J.cN g (by omega) h2
  · rw [mu_ne (by omega), hg1]; exact J.pA
  · rw [hg1] at hj
    rw [mu_ne (by omega), henc]; exact J.qA j hj
theorem t_open (hR : Rn n gh C R) (J : JI n gh R A) {p : Nat} (hp : p < 6) (c8 : gh.1 0 < 8) (c2 : n < 80) (A0 : rv_Mem) (a b c d : Int32) : ∃ C2 R2, gp_act gh C A0 4 (nI p) a b c d = some (nI (gh.1 0), rC_gi gh 0 0, C2) ∧ Rn (n + 1) (rC_gi gh 0 0) C2 R2 ∧ JI (n + 1) (rC_gi gh 0 0) R2 (rv_u A 0 (4 * gh.1 0) (nI p)) ∧ R2 14 (gh.1 0) = nI 1 ∧ R2 2 n = R2 2 80 ∧ R2 20 (gh.1 0) = 0 ∧ rvS R2 (gh.1 0) = 0 ∧ R2 5 n = nI (gh.1 0) ∧ R2 6 n = nI 0 ∧ R2 52 = R 52 := by
  obtain ⟨C2, R2, S, x1, x2, x3, x4, x5, x6, x7, ⟨b0, b1, b2, b3, b4⟩, F⟩ := t_open0 hR hp (by omega) c2
  obtain ⟨y1, y2, y3⟩ := JI_open hR x2 J c8 x3 x4 x5 x6 x7 F
  obtain ⟨f1, f2, f3, -, f5, -⟩ := F
  exact ⟨C2, R2, by rw [ga_4, x1, xmk], x2, y3, f5, by rw [b3, b4 80 (by omega), x3 2 (by omega) (by omega), b2], y2, y1, f2, f3, by rw [f1 52 (by omega) (by omega) (by omega) (by omega) (by omega) (by omega), x3 52 (by omega) (by omega)]⟩
end

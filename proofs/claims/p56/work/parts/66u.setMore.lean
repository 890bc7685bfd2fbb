/-! THE NEWEST COMMIT BECOMES A CHANGE'S SET -/
theorem inj_le : ∀ (b k : Nat) (f : Nat → Nat), (∀ j, j < k → f j < b) → (∀ i j, i < k → j < k → f i = f j → i = j) → k ≤ b
  | 0, k, f, h, _ => by
    cases k with
    | zero => exact Nat.le_refl _
    | succ k => exact absurd (h 0 (by omega)) (Nat.not_lt_zero _)
  | b + 1, k, f, h, hi => by
    by_cases c : ∃ j, j < k ∧ f j = b
    · obtain ⟨j, j1, j2⟩ := c
      have := inj_le b (k - 1) (fun i => if i < j then f i else f (i + 1)) (fun i hi2 => by
        have a1 := h i (by omega)
        have a2 := h (i + 1) (by omega)
        by_cases e : i < j
        · simp only [if_pos e]
          have : f i ≠ b := fun z => by have := hi i j (by omega) j1 (by omega); omega
          omega
        · simp only [if_neg e]
          have : f (i + 1) ≠ b := fun z => by have := hi (i + 1) j (by omega) j1 (by omega); omega
          omega) (fun i i' hi1 hi2 he => by
        by_cases e : i < j
        · by_cases e' : i' < j
          · simp only [if_pos e, if_pos e'] at he
            exact hi i i' (by omega) (by omega) he
          · simp only [if_pos e, if_neg e'] at he
            have := hi i (i' + 1) (by omega) (by omega) he
            omega
        · by_cases e' : i' < j
          · simp only [if_neg e, if_pos e'] at he
            have := hi (i + 1) i' (by omega) (by omega) he
            omega
          · simp only [if_neg e, if_neg e'] at he
            have := hi (i + 1) (i' + 1) (by omega) (by omega) he
            omega)
      omega
    · have := inj_le b k f (fun j hj => by
        have := h j hj
        have : f j ≠ b := fun z => c ⟨j, hj, z⟩
        omega) hi
      omega
theorem Rn.setsn {n : Nat} {gh : rC_gh} {C R : rv_Mem} (hR : Rn n gh C R) {h k : Nat} (hh : h < gh.1 0) (hk80 : k ≤ 80) (hk : R 14 h = nI k) : k ≤ n - 2 := by
  have hn := hR.n80
  obtain ⟨f, hf⟩ : ∃ f : Nat → Nat, ∀ s, s < k → 2 ≤ f s ∧ f s < n ∧ C (120 + h) s = nI (f s) ∧ R 6 (f s) = nI s := by
    refine ⟨fun s => (C (120 + h) s).toNatClampNeg, fun s hs => ?_⟩
    obtain ⟨c, c1, c2, c3, c4, c5, c6⟩ := hR.at hh hk80 hk hs
    simp only [c3, q_nc (show c < 2147483648 by omega)]
    exact ⟨c1, c2, trivial, c5⟩
  refine inj_le (n - 2) k (fun s => f s - 2) (fun j hj => ?_) (fun i j hi hj he => ?_)
  · obtain ⟨a1, a2, -⟩ := hf j hj
    show f j - 2 < n - 2
    omega
  · obtain ⟨a1, a2, a3, a4⟩ := hf i hi
    obtain ⟨b1, b2, b3, b4⟩ := hf j hj
    have he : f i - 2 = f j - 2 := he
    have e : f i = f j := by omega
    rw [e, b4, q_eq (by omega) (by omega)] at a4
    exact a4.symm
def putC (n h k ch : Nat) (C C' : rv_Mem) (p : Nat) : Prop := (∀ q, q ≠ 19 → q ≠ 20 → q ≠ 21 → q ≠ 23 → q ≠ 100 + h → q ≠ 120 + h → C' q = C q) ∧ (∀ c, c ≠ n → C' 19 c = C 19 c ∧ C' 20 c = C 20 c ∧ C' 21 c = C 21 c) ∧ (∀ x, x ≠ h → C' 23 x = C 23 x) ∧ (∀ j, j < k → C' (120 + h) j = C (120 + h) j) ∧ C' 19 n = nI h ∧ C' 20 n = nI p ∧ C' 23 h = nI n ∧ C' (120 + h) k = nI n ∧ C' (100 + h) 4 = nI (k + 1)
def putR (n h k ch : Nat) (R R' : rv_Mem) (p : Nat) : Prop := (∀ q, q ≤ 52 → q ≠ 5 → q ≠ 6 → q ≠ 7 → q ≠ 11 → q ≠ 12 → q ≠ 13 → q ≠ 14 → q ≠ 17 → R' q = R q) ∧ (∀ q c, 5 ≤ q → q ≤ 7 → c ≠ n → R' q c = R q c) ∧ (∀ q x, q = 12 ∨ q = 13 ∨ q = 14 ∨ q = 17 → x ≠ h → R' q x = R q x) ∧ R' 5 n = nI h ∧ R' 6 n = nI k ∧ R' 7 n = nI p ∧ R' 14 h = nI (k + 1) ∧ R' 11 0 = nI ch ∧ rv_z (R' 64 0) = false
def putG (h k ch ch' : Nat) (R : rv_Mem) : Prop := (h < ch ∧ ch' = ch ∧ k ≤ 80 ∧ R 14 h = nI k) ∨ (h = ch ∧ ch' = ch + 1 ∧ k = 0 ∧ ch < 20)
theorem put_mAt {n h k ch ch' p : Nat} {gh : rC_gh} {C R R' : rv_Mem} (hR : Rn (n + 1) gh C R) (hch : ch = gh.1 0) (h5 : R 5 n = NO) (hG : putG h k ch ch' R) (hP : putR n h k ch' R R' p) : (∀ x s, x < 20 → s < 2147483648 → ¬ (x = h ∧ s = k) → mAt (n + 1) (R' 5) (R' 6) (nI x) (nI s) = mAt (n + 1) (R 5) (R 6) (nI x) (nI s)) ∧ mAt (n + 1) (R' 5) (R' 6) (nI h) (nI k) = nI n := by
  have hc := hR.ch20
  have hh : h < 20 := by rcases hG with ⟨a, -⟩ | ⟨a, b, c, d⟩ <;> omega
  have hk : k < 2147483648 := by rcases hG with ⟨a, b, c, d⟩ | ⟨a, b, c, d⟩ <;> omega
  obtain ⟨p1, p2, p3, p4, p5, p6, p7, p8, p9⟩ := hP
  refine ⟨fun x s hx hs hne => ?_, mAt_eq p4 p5⟩
  rw [mAt_ge (fun c hc => p2 5 c (by omega) (by omega) (by omega)) (fun c hc => p2 6 c (by omega) (by omega) (by omega)), mAt_new (r5' := R 5) (r6' := R 6) (r5 := R 5) (r6 := R 6) (by omega) (fun _ _ => rfl) (fun _ _ => rfl) h5]
  rw [p4, p5, q_eq (by omega) (by omega), q_eq (by omega) (by omega)]
  rintro ⟨rfl, rfl⟩
  exact hne ⟨rfl, rfl⟩
theorem put_par {n h k ch ch' p : Nat} {gh : rC_gh} {C R R' : rv_Mem} (hR : Rn (n + 1) gh C R) (hn : 2 ≤ n) (hch : ch = gh.1 0) (h5 : R 5 n = NO) (hG : putG h k ch ch' R) (hP : putR n h k ch' R R' p) : (∀ x, x < ch → x ≠ h → parS (n + 1) R' x = parS (n + 1) R x) ∧ parS (n + 1) R' h = R 5 (R 2 n).toNatClampNeg := by
  have hc := hR.ch20
  have hn80 := hR.n80
  obtain ⟨m1, m2⟩ := put_mAt hR hch h5 hG hP
  obtain ⟨p1, p2, p3, p4, p5, p6, p7, p8, p9⟩ := hP
  constructor
  · intro x hx hne
    subst hch
    obtain ⟨k', c, k1, k2, k3, k4, c1, c2, c3, c4, c5, c6, c7, c8⟩ := hR.cur hx
    obtain ⟨b, b1, b2, b3, -⟩ := hR.base c1 c2
    unfold parS
    have : curS (n + 1) R' x = curS (n + 1) R x := by
      unfold curS
      rw [p3 14 x (by omega) hne, k3, q_1, q_sub k1]
      exact m1 x _ (by omega) (by omega) (fun z => hne z.1)
    rw [this, c7, q_nc (by omega), p1 2 (by omega) (by omega) (by omega) (by omega) (by omega) (by omega) (by omega) (by omega) (by omega), b3, q_nc (by omega), p2 5 b (by omega) (by omega) (by omega)]
  · have hk : k ≤ 80 := by rcases hG with ⟨a, b, c, d⟩ | ⟨a, b, c, d⟩ <;> omega
    obtain ⟨b, b1, b2, b3, -⟩ := hR.base hn (show n < n + 1 by omega)
    unfold parS curS
    rw [p7, q_1, q_sub (by omega), Nat.add_sub_cancel, m2, q_nc (by omega), p1 2 (by omega) (by omega) (by omega) (by omega) (by omega) (by omega) (by omega) (by omega) (by omega), b3, q_nc (by omega), p2 5 b (by omega) (by omega) (by omega)]
set_option maxHeartbeats 1000000 in
theorem Rn_setM {n h k p : Nat} {gh gh' : rC_gh} {C C' R R' : rv_Mem} (hR : Rn (n + 1) gh C R) (hn : 2 ≤ n) (h5 : R 5 n = NO) (h18 : ∀ x, x < gh.1 0 → R 13 x = nI 1 → R 18 x ≠ nI n) (hG : putG h k (gh.1 0) (gh'.1 0) R) (hk : k < 80) (hp : p < 6) (hP : putR n h k (gh'.1 0) R R' p) (hQ : putC n h k (gh'.1 0) C C' p) (g1 : gh'.1 1 = gh.1 1) (g2 : gh'.1 2 = gh.1 2) (g3 : ∀ j, gh'.2 (200 + j) = gh.2 (200 + j)) (g4 : rC_ok gh' = true)
    (chg : chg1 (n + 1) h (C' (100 + h)) R') (rev : ∀ i, i < 32 → bt (C' (100 + h) 9) i = revB (n + 1) (gh.1 1) (R' 5) (R' 12) (R' 19) (R' 22) (R' 25) (R' 26) (R' 32) h i) (par : A_par (n + 1) (gh'.1 0) R') (kin : C' 21 n = kindS (n + 1) R' n) : Rn (n + 1) gh' C' R' := by
  have hc20 := hR.ch20
  have hn80 := hR.n80
  have hle : gh.1 0 ≤ gh'.1 0 ∧ gh'.1 0 ≤ 20 ∧ h < gh'.1 0 ∧ (∀ x, x < gh'.1 0 → x ≠ h → x < gh.1 0) := by
    rcases hG with ⟨a, b, c, d⟩ | ⟨a, b, c, d⟩
    · exact ⟨by omega, by omega, by omega, fun x h1 h2 => by omega⟩
    · exact ⟨by omega, by omega, by omega, fun x h1 h2 => by omega⟩
  obtain ⟨m1, m2⟩ := put_mAt hR rfl h5 hG hP
  have hG' := hG
  have hP' := hP
  obtain ⟨p1, p2, p3, p4, p5, p6, p7, p8, p9⟩ := hP
  obtain ⟨q1, q2, q3, q4, q5, q6, q7, q8, q9⟩ := hQ
  have e := fun q (hq : q ≤ 52 ∧ q ≠ 5 ∧ q ≠ 6 ∧ q ≠ 7 ∧ q ≠ 11 ∧ q ≠ 12 ∧ q ≠ 13 ∧ q ≠ 14 ∧ q ≠ 17) => p1 q (by omega) (by omega) (by omega) (by omega) (by omega) (by omega) (by omega) (by omega) (by omega)
  have d := fun q (hq : q ≠ 19 ∧ q ≠ 20 ∧ q ≠ 21 ∧ q ≠ 23 ∧ q ≠ 100 + h ∧ q ≠ 120 + h) => q1 q (by omega) (by omega) (by omega) (by omega) (by omega) (by omega)
  have h14 : ∀ x, x < gh.1 0 → (R 14 x).toNatClampNeg ≤ (R' 14 x).toNatClampNeg := fun x hx => by
    by_cases ex : x = h
    · subst ex
      rcases hG with ⟨a, b, c, d⟩ | ⟨a, b, c, d⟩
      · rw [d, p7, q_nc (by omega), q_nc (by omega)]; omega
      · omega
    · rw [p3 14 x (by omega) ex]; exact Nat.le_refl _
  have sk : ∀ x s, x < gh.1 0 → s < (R 14 x).toNatClampNeg → x = h → s < k := fun x s hx hs ex => by
    subst ex
    rcases hG with ⟨a, b, c, d⟩ | ⟨a, b, c, d⟩
    · rw [d, q_nc (by omega)] at hs; exact hs
    · omega
  have s80 : ∀ x s, x < gh.1 0 → s < (R 14 x).toNatClampNeg → s < 80 := fun x s hx hs => by
    obtain ⟨k', k1, k2, k3, k4, k5⟩ := hR.sets hx
    rw [k4, q_nc (by omega)] at hs; omega
  have mB : ∀ x s, x < gh.1 0 → s < (R 14 x).toNatClampNeg → mAt (n + 1) (R' 5) (R' 6) (nI x) (nI s) = mAt (n + 1) (R 5) (R 6) (nI x) (nI s) := fun x s hx hs => m1 x s (by omega) (by have := s80 x s hx hs; omega) (fun z => by have := sk x s hx hs z.1; omega)
  have efl : ∀ c f, fl R' c f = fl R c f := fun c f => by unfold fl; rw [e 3 (by omega), e 4 (by omega)]
  refine ⟨?_, by rw [d 14 (by omega), d 15 (by omega), e 3 (by omega), e 4 (by omega)]; exact hR.fil, by rw [d 16 (by omega), d 17 (by omega), d 18 (by omega), e 1 (by omega), e 2 (by omega), e 8 (by omega)]; exact hR.bas, by rw [d 22 (by omega), d 51 (by omega), e 1 (by omega), e 9 (by omega), e 10 (by omega)]; exact hR.tip, ?_, ?_, ?_, ?_, par, ?_, ?_, by rw [d 41 (by omega), d 42 (by omega), e 22 (by omega), e 23 (by omega)]; exact hR.vot, ?_, ?_, ?_, ?_, ?_, g4⟩
  · obtain ⟨b1, b2, b3, b4, b5, b6, b7, b8, b9, -⟩ := hR.cnt
    exact ⟨b1, by rw [d 1 (by omega)]; exact b2, by rw [e 0 (by omega)]; exact b3, hle.2.1, p8, by omega, by rw [e 24 (by omega), g1]; exact b7, by omega, by rw [e 34 (by omega), g2]; exact b9, p9⟩
  · intro c hc
    by_cases ec : c = n
    · subst ec
      exact Or.inr ⟨h, k, p, hle.2.2.1, hn, q5, p4, p5, by rw [p7, q_nc (by omega)]; omega, q8, hp, q6, p6⟩
    · rw [(q2 c ec).1, (q2 c ec).2.1, p2 5 c (by omega) (by omega) ec, p2 6 c (by omega) (by omega) ec, p2 7 c (by omega) (by omega) ec]
      rcases hR.own c hc with a | ⟨x, s, y, a1, a2, a3, a4, a5, a6, a7, a8⟩
      · exact Or.inl a
      · refine Or.inr ⟨x, s, y, by omega, a2, a3, a4, a5, by have := h14 x a1; omega, ?_, a8⟩
        by_cases ex : x = h
        · have := sk x s a1 a6 ex
          subst ex
          rw [q4 s this]; exact a7
        · rw [d (120 + x) (by omega)]; exact a7
  · obtain ⟨s1, s2⟩ := hR.set
    refine ⟨fun x hx => ?_, fun x hx hx2 => by rw [q3 x (by omega)]; exact s2 x (by omega) hx2⟩
    by_cases ex : x = h
    · subst ex
      refine ⟨k + 1, by omega, by omega, q9, p7, by rw [q7]; exact q8.symm, fun j hj => ?_⟩
      by_cases ej : j = k
      · subst ej; exact ⟨n, hn, by omega, q8, p4, p5⟩
      · rcases hG with ⟨a, b, c, dd⟩ | ⟨a, b, c, dd⟩
        · obtain ⟨k', k1, k2, k3, k4, k5, k6⟩ := s1 x a
          rw [dd, q_eq (by omega) (by omega)] at k4
          subst k4
          obtain ⟨c, c1, c2, c3, c4, c5⟩ := k6 j (by omega)
          have hcn : c ≠ n := fun z => by
            rw [z, h5, q_no_eq' (by omega)] at c4; exact c4
          exact ⟨c, c1, c2, by rw [q4 j (by omega)]; exact c3, by rw [p2 5 c (by omega) (by omega) hcn]; exact c4, by rw [p2 6 c (by omega) (by omega) hcn]; exact c5⟩
        · omega
    · obtain ⟨k', k1, k2, k3, k4, k5, k6⟩ := s1 x (hle.2.2.2 x hx ex)
      rw [d (100 + x) (by omega), d (120 + x) (by omega), q3 x ex, p3 14 x (by omega) ex]
      refine ⟨k', k1, k2, k3, k4, k5, fun j hj => ?_⟩
      obtain ⟨c, c1, c2, c3, c4, c5⟩ := k6 j hj
      have hcn : c ≠ n := fun z => by
        rw [z, h5, q_no_eq' (by omega)] at c4; exact c4
      exact ⟨c, c1, c2, c3, by rw [p2 5 c (by omega) (by omega) hcn]; exact c4, by rw [p2 6 c (by omega) (by omega) hcn]; exact c5⟩
  · rw [chg_iff]
    intro x hx
    by_cases ex : x = h
    · subst ex; exact chg
    · have old : chg1 (n + 1) x (C (100 + x)) R := hR.chg x (hle.2.2.2 x hx ex)
      rw [d (100 + x) (by omega)]
      unfold chg1 at old ⊢
      rw [p3 12 x (by omega) ex, p3 13 x (by omega) ex, e 15 (by omega), e 16 (by omega), p3 17 x (by omega) ex, e 18 (by omega), e 20 (by omega), e 21 (by omega), e 52 (by omega), e 1 (by omega)]
      obtain ⟨a1, a2, ⟨r, r0, a3, a4, a5⟩, a6⟩ := old
      refine ⟨a1, a2, ⟨r, r0, a3, fun c hc hc5 => ?_, fun z => ?_⟩, a6⟩
      · by_cases ec : c = n
        · rw [ec, p4, q_eq (by omega) (by omega)] at hc5; omega
        · rw [p2 5 c (by omega) (by omega) ec] at hc5; exact a4 c hc hc5
      · obtain ⟨c, c1, c2, c3, c4, c5⟩ := a5 z
        by_cases ec : c = n
        · subst ec; exact absurd c3 (h18 x (hle.2.2.2 x hx ex) z)
        · exact ⟨c, c1, c2, c3, by rw [p2 5 c (by omega) (by omega) ec]; exact c4, c5⟩
  · intro x h1 h2
    rw [e 15 (by omega), e 16 (by omega), e 19 (by omega), e 20 (by omega)]
    exact hR.nw x (by omega) h2
  · intro c hc ho
    by_cases ec : c = n
    · subst ec; exact kin
    · rw [p2 5 c (by omega) (by omega) ec] at ho
      rw [(q2 c ec).2.2, hR.kin c hc ho]
      obtain ⟨x, s, a1, a2, a3, a4, a5, a6⟩ := hR.prev hc ho
      unfold kindS
      simp only [efl]
      rw [e 2 (by omega), p2 5 c (by omega) (by omega) ec, p2 6 c (by omega) (by omega) ec, a3, a4]
      by_cases es : s = 0
      · subst es
        rw [if_pos (show nI 0 = 0 from rfl), if_pos (show nI 0 = 0 from rfl)]
      · have hs : s < (R 14 x).toNatClampNeg := by
          rcases hR.own c hc with ⟨-, z⟩ | ⟨x', s', y, b1, b2, b3, b4, b5, b6, -⟩
          · exact absurd z ho
          · rw [a3, q_eq (by omega) (by omega)] at b4
            subst b4
            have := s80 x s' b1 b6
            rw [a4, q_eq (by omega) (by omega)] at b5
            subst b5; exact b6
        have es1 : nI s - 1 = nI (s - 1) := q_sub (show 1 ≤ s by omega)
        rw [es1, mB x (s - 1) a1 (by omega)]
  · intro x hx i hi
    rw [g1]
    by_cases ex : x = h
    · subst ex; exact rev i hi
    · rw [d (100 + x) (by omega), hR.rev x (hle.2.2.2 x hx ex) i hi]
      unfold revB
      rw [p3 12 x (by omega) ex, e 19 (by omega), e 22 (by omega), e 25 (by omega), e 26 (by omega), e 32 (by omega), any_succ, any_succ, h5, p4]
      have z1 : decide (NO = nI x) = false := decide_eq_false (by rw [q_no_eq' (by omega)]; simp)
      have z2 : decide (nI h = nI x) = false := decide_eq_false (by rw [q_eq (by omega) (by omega)]; omega)
      rw [z1, z2, any_congr (n := n) (fun c hc => by rw [← p2 5 c (by omega) (by omega) (by omega)])]
  · rw [g1]
    intro j hj
    obtain ⟨b1, b2, b3, b4, b5, x, s, f, a, k', d1, d2, d3, d4, d5, d6, d7, d8, d9, d10, d11, d12, d13, d14, d15⟩ := hR.cmt j hj
    have hpl := ok_pl2 b5
    have hcm := hR.cnt.2.2.2.2.2.1
    rw [g3, d (200 + j) (by omega), d (gh.2 (200 + j)) (by omega), e 25 (by omega), e 26 (by omega), e 27 (by omega), e 28 (by omega), e 29 (by omega), e 30 (by omega), e 31 (by omega), e 32 (by omega), e 33 (by omega), e 3 (by omega)]
    refine ⟨b1, b2, b3, b4, ?_, x, s, f, a, k', by omega, by have := h14 x d1; omega, d3, d4, d5, d6, d7, d8, d9, d10, d11, d12, d13, d14, by rw [mB x s d1 d2]; exact d15⟩
    have := g4
    unfold rC_ok at this
    have := List.all_eq_true.mp this j (List.mem_range.mpr (by omega))
    rw [g3] at this; exact this
  · rw [g2]
    intro j hj
    obtain ⟨x, s, f, a, k', d1, d2, d3, d4, d5, d6, d7, d8, d9, d10, d11, d12, d13, d14, d15⟩ := hR.fnd j hj
    rw [d (400 + j) (by omega), d (500 + j) (by omega), e 35 (by omega), e 36 (by omega), e 37 (by omega), e 38 (by omega), e 39 (by omega), e 40 (by omega), e 3 (by omega)]
    exact ⟨x, s, f, a, k', by omega, by have := h14 x d1; omega, d3, d4, d5, d6, d7, d8, d9, d10, d11, d12, d13, by rw [mB x s d1 d2]; exact d14, by rw [mB x s d1 d2]; exact d15.1, d15.2⟩
  · have := hR.ols
    unfold A_ols at this ⊢
    rw [d 48 (by omega), d 49 (by omega), d 50 (by omega), d 5 (by omega), e 41 (by omega), e 42 (by omega), e 43 (by omega), e 44 (by omega)]; exact this
  · have := hR.rul
    unfold A_rul at this ⊢
    rw [d 4 (by omega), d 43 (by omega), d 44 (by omega), d 45 (by omega), d 46 (by omega), d 47 (by omega), e 45 (by omega), e 46 (by omega), e 47 (by omega), e 48 (by omega), e 49 (by omega)]; exact this
  · have := hR.mis
    unfold A_mis at this ⊢
    rw [d 12 (by omega), d 13 (by omega), d 0 (by omega), e 50 (by omega), e 51 (by omega), e 52 (by omega)]; exact this

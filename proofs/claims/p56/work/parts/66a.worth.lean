/-! WHAT VOTES ARE WORTH -/
def wI (u : Nat) : Int32 := nI u - nI 3
theorem wI_3 : wI 3 = 0 := rfl
theorem wI_0 : ∀ u, u < 6 → ((wI u = 0) = (u = 3)) := by decide
theorem wI_9 : ∀ u, u < 6 → ¬ wI u = -9 := by decide
theorem wI_2 : ∀ u, u < 6 → 1 ≤ u → wI u + 2 = nI (u - 1) := by decide
theorem wI_inj : ∀ u, u < 6 → ∀ v, v < 6 → ((wI u = wI v) = (u = v)) := by decide
theorem s11_isIn {x : Int32} {k : Nat} (hk : k < 32) : f11_isIn x (nI k) = some (bt x k) := by
  unfold f11_isIn
  simp only [b_test hk]
  cases bt x k <;> rfl
theorem kindS_lt (n : Nat) (R : rv_Mem) (c : Nat) : ∃ κ, κ < 3 ∧ kindS n R c = nI κ := by
  unfold kindS
  by_cases h1 : R 6 c = 0
  · rw [if_pos h1]; exact ⟨0, by omega, rfl⟩
  · rw [if_neg h1]
    dsimp only
    split
    · split
      · exact ⟨2, by omega, rfl⟩
      · exact ⟨0, by omega, rfl⟩
    · split
      · exact ⟨1, by omega, rfl⟩
      · exact ⟨0, by omega, rfl⟩
def cAt (n : Nat) (R : rv_Mem) (h s : Nat) : Nat := (mAt n (R 5) (R 6) (nI h) (nI s)).toNatClampNeg
def vx (n : Nat) (R : rv_Mem) (h p l s : Nat) : Nat := (R 22 (12 * cAt n R h s + 2 * p + l)).toNatClampNeg
def wst (n : Nat) (R : rv_Mem) (h p l s u : Nat) : Nat := if vx n R h p l s ≠ 0 then vx n R h p l s else if bt (R 23 (3 * l + (kindS n R (cAt n R h s)).toNatClampNeg)) (u - 1) = true then u else 3
def wP (n : Nat) (R : rv_Mem) (h p l : Nat) : Nat → Nat
  | 0 => 3
  | k + 1 => wst n R h p l k (wP n R h p l k)
/-- a set, its commit, and the vote there -/
theorem Rn.vote {n : Nat} {gh : rC_gh} {C R : rv_Mem} (hR : Rn n gh C R) {h p l s k : Nat} (hh : h < gh.1 0) (hp : p < 6) (hl : l < 2) (hk : R 14 h = nI k) (hk80 : k ≤ 80) (hs : s < k) :
    ∃ c, 2 ≤ c ∧ c < n ∧ C (120 + h) s = nI c ∧ R 5 c = nI h ∧ mAt n (R 5) (R 6) (nI h) (nI s) = nI c ∧ cAt n R h s = c ∧ vx n R h p l s < 6 ∧ R 22 (12 * c + 2 * p + l) = nI (vx n R h p l s) ∧ C 41 ((2 * c + l) * 6 + p) = (if vx n R h p l s = 0 then -9 else wI (vx n R h p l s)) := by
  obtain ⟨c, c1, c2, c3, c4, c5, c6⟩ := hR.at hh hk80 hk hs
  have hn := hR.n80
  have e : cAt n R h s = c := by unfold cAt; rw [c6, q_nc (by omega)]
  refine ⟨c, c1, c2, c3, c4, c6, e, ?_⟩
  unfold vx
  rw [e]
  rcases hR.vot.1 c l p (by omega) hl hp with ⟨h1, h2⟩ | ⟨-, v, v1, v2, -, v3, v4⟩
  · rw [h1, h2, q_nc (by omega)]
    exact ⟨by omega, rfl, rfl⟩
  · rw [v3, v4, q_nc (by omega)]
    exact ⟨by omega, rfl, by rw [if_neg (by omega)]; rfl⟩
theorem Rn.wb {n : Nat} {gh : rC_gh} {C R : rv_Mem} (hR : Rn n gh C R) {h p l k : Nat} (hh : h < gh.1 0) (hp : p < 6) (hl : l < 2) (hk : R 14 h = nI k) (hk80 : k ≤ 80) : ∀ s, s ≤ k → 1 ≤ wP n R h p l s ∧ wP n R h p l s < 6 := by
  intro s
  induction s with
  | zero => intro _; exact ⟨by show 1 ≤ 3; omega, by show 3 < 6; omega⟩
  | succ s ih =>
    intro hs
    obtain ⟨b1, b2⟩ := ih (by omega)
    obtain ⟨c, -, -, -, -, -, -, v1, -⟩ := hR.vote (p := p) (l := l) hh hp hl hk hk80 (show s < k by omega)
    show 1 ≤ wst n R h p l s _ ∧ wst n R h p l s _ < 6
    unfold wst
    split
    · omega
    · split <;> omega
theorem Rn.cpd {n : Nat} {gh : rC_gh} {C R : rv_Mem} (hR : Rn n gh C R) {i : Nat} (hi : i < 6) : C 42 i = R 23 i := by
  obtain ⟨v, -, v1, v2⟩ := hR.vot.2 i hi
  rw [v1, v2]
theorem Rn.worthC {n : Nat} {gh : rC_gh} {C C1 R : rv_Mem} (hR : Rn n gh C R) {h p l s k : Nat} (hh : h < gh.1 0) (hp : p < 6) (hl : l < 2) (hk : R 14 h = nI k) (hk80 : k ≤ 80) (hs : s < k) (e4 : C1 (100 + h) 4 = C (100 + h) 4) (e120 : C1 (120 + h) = C (120 + h)) (e21 : C1 21 = C 21) (e41 : C1 41 = C 41) (e42 : C1 42 = C 42) :
    f10_worthOn gh C1 (100 + h) (nI s) (nI l) (nI p) = some (wI (wP n R h p l (s + 1))) := by
  have hc := hR.ch20
  have hn := hR.n80
  have i1 := is1 hh hc
  obtain ⟨k', k1, k2, k3, k4, -⟩ := hR.sets hh
  have ekk : k' = k := by rw [hk, q_eq (by omega) (by omega)] at k4; exact k4.symm
  subst ekk
  obtain ⟨u, x1, x2⟩ := rv_ui (z := (fun _ _ _ _ _ _ => none)) (F := f10_worthOn_6_s gh C1) (fun t j (u : Nat) => t (100 + h) (nI s) (nI l) (nI p) (wI u) (nI j)) (s + 1) (fun j u => u = wP n R h p l j) (fun u => some (wI u)) (fun t j u hj hu => by
    obtain ⟨c, c1, c2, c3, c4, c5, c6, v1, v2, v3⟩ := hR.vote (p := p) (l := l) hh hp hl k4 k2 (show j < k' by omega)
    obtain ⟨w1, w2⟩ := hR.wb (p := p) (l := l) hh hp hl k4 k2 j (by omega)
    refine ⟨wP n R h p l (j + 1), rfl, ?_⟩
    rw [hu]
    obtain ⟨κ, q1, q2⟩ := kindS_lt n R c
    have ec : f0_commitAt gh C1 (100 + h) (nI j) = some (nI c) := by
      unfold f0_commitAt
      rw [if_pos i1, e4, k3, if_pos (by rw [q_lt (by omega) (by omega)]; omega), show 100 + h + 20 = 120 + h by omega]
      have hA := isA1 hh hc
      rw [show 100 + h + 20 = 120 + h by omega] at hA
      have hL : rC_ln (120 + h) = 80 := by unfold rC_ln; rw [if_neg (by omega)]
      rw [s9_read (L := 80) (by omega) hL hA (by omega), o1_some, e120, c3]
    have ho : R 5 c ≠ NO := by rw [c4, ne_eq, q_no_eq (by omega)]; exact fun z => z
    have ek : f9_kindAt gh C1 (nI c) = some (nI κ) := by
      unfold f9_kindAt
      rw [s9_read (L := 82) (by omega) (by decide) rfl (by omega), o1_some, e21, hR.kin c c2 ho, q2]
    have e1 : ((nI c * 2 + nI l) * 6 + nI p) = nI ((2 * c + l) * 6 + p) := by rw [q_2, q_6, q_mul, q_add, q_mul, q_add]; congr 1; omega
    have e2 : (nI l * 3) + nI κ = nI (3 * l + κ) := by rw [q_3, q_mul, q_add]; congr 1; omega
    show f10_worthOn_6_s gh C1 t (100 + h) (nI s) (nI l) (nI p) (wI (wP n R h p l j)) (nI j) = t (100 + h) (nI s) (nI l) (nI p) (wI (wst n R h p l j (wP n R h p l j))) (nI (j + 1))
    unfold f10_worthOn_6_s f10_indexOf f10_worthOn_91
    rw [if_pos (by rw [q_le (by omega) (by omega)]; omega), if_pos (by rw [q_80, q_lt (by omega) (by omega)]; omega), if_pos i1, ec, o1_some, o1_some, e1, s9_read (L := 960) (by omega) (by decide) rfl (by omega), o1_some, e41, v3, q_succ]
    by_cases hv : vx n R h p l j = 0
    · have ew : wst n R h p l j (wP n R h p l j) = if bt (R 23 (3 * l + κ)) (wP n R h p l j - 1) = true then wP n R h p l j else 3 := by
        unfold wst
        rw [if_neg (fun z => z hv), c6, q2, q_nc (by omega)]
      rw [ew, if_pos hv, if_neg (fun z => z rfl), ek, o1_some, e2, s9_read (L := 6) (by omega) (by decide) rfl (by omega), o1_some, e42, hR.cpd (by omega), wI_2 _ w2 w1, s11_isIn (by omega), o1_some]
      cases bt (R 23 (3 * l + κ)) (wP n R h p l j - 1) with
      | true => rw [if_neg (by simp), if_pos rfl]
      | false => rw [if_pos rfl, if_neg (by simp), wI_3]
    · have ew : wst n R h p l j (wP n R h p l j) = vx n R h p l j := by
        unfold wst
        rw [if_pos hv]
      rw [ew, if_neg hv, if_pos (wI_9 _ v1)]) (fun t u _ => by
    show f10_worthOn_6_s gh C1 t (100 + h) (nI s) (nI l) (nI p) (wI u) (nI (s + 1)) = _
    unfold f10_worthOn_6_s
    rw [if_neg (by rw [q_le (by omega) (by omega)]; omega)]) rv_FU 0 3 (Nat.zero_le _) (FU_lt (by omega)) rfl
  rw [← x1]
  exact x2
theorem s12_worthOf {n : Nat} {gh : rC_gh} {C R M : rv_Mem} (hR : Rn n gh C R) (hkm : ∀ k, k ≤ 6 ∨ k = 22 ∨ k = 23 → M k = R k) (h64 : rv_z (M 64 0) = false) {h p l s k c : Nat} (hh : h < gh.1 0) (hp : p < 6) (hl : l < 2) (hk : R 14 h = nI k) (hk80 : k ≤ 80) (hs : s < k) (hcm : mAt n (R 5) (R 6) (nI h) (nI s) = nI c) (h5 : R 5 c = nI h) (h6 : R 6 c = nI s) (hcn : c < n) :
    ∃ M', f12_worthOf M (nI p) (nI c) (nI l) = some (wI (wP n R h p l (s + 1)), M') ∧ scr M' M := by
  have hc20 := hR.ch20
  have hn := hR.n80
  have e0 : M 0 0 = nI n := by rw [hkm 0 (by omega)]; exact hR.cnt.2.2.1
  have e5 := hkm 5 (by omega)
  have e6 := hkm 6 (by omega)
  have e22 := hkm 22 (by omega)
  have start : f12_worthOf M (nI p) (nI c) (nI l) = f12_worthOf_16 rv_FU M (nI p) (nI c) (nI l) (nI h) (nI s) := by
    unfold f12_worthOf
    rw [if_pos (q_inb (show c < 82 by omega) (by omega)), if_pos (q_inb (show c < 82 by omega) (by omega)), q_nc (by omega), e5, e6, h5, h6]
  rw [start]
  have cA : ∀ j, j < k → ∃ cj, 2 ≤ cj ∧ cj < n ∧ f12_commitAt M (nI h) (nI j) = some (nI cj) ∧ cAt n R h j = cj ∧ vx n R h p l j < 6 ∧ M 22 (12 * cj + 2 * p + l) = nI (vx n R h p l j) ∧ R 5 cj = nI h := fun j hj => by
    obtain ⟨cj, c1, c2, c3, c4, c5, c6, v1, v2, v3⟩ := hR.vote (p := p) (l := l) hh hp hl hk hk80 hj
    exact ⟨cj, c1, c2, by rw [s12_commitAt e0 hn, e5, e6, c5], c6, v1, by rw [e22]; exact v2, c4⟩
  -- upward from a set j, with what it is worth there
  have upw : ∀ j, j ≤ s → (∀ i, j < i → i ≤ s → vx n R h p l i = 0) → ∃ M', f12_worthOf_97 rv_FU M (nI c) (nI l) (nI h) (wI (wP n R h p l (j + 1))) (nI (j + 1)) = some (wI (wP n R h p l (s + 1)), M') ∧ scr M' M := by
    intro j hj hz
    refine rv_ux (z := (fun _ _ _ _ _ _ => none)) (F := f12_worthOf_97_s) (fun t i (s : rv_Mem) => t s (nI c) (nI l) (nI h) (wI (wP n R h p l i)) (nI i)) (s + 1) (fun i M1 => scr M1 M ∧ j + 1 ≤ i) (fun r => ∃ M', r = some (wI (wP n R h p l (s + 1)), M') ∧ scr M' M) ?_ ?_ rv_FU (j + 1) M (by omega) (FU_lt (by omega)) ⟨fun _ _ => rfl, Nat.le_refl _⟩
    · intro t i M1 hi ⟨i1, i2⟩
      obtain ⟨ci, c1, c2, c3, c4, c5, c6, c7⟩ := cA i (by omega)
      obtain ⟨w1, w2⟩ := hR.wb (p := p) (l := l) hh hp hl hk hk80 i (by omega)
      have g0 : M1 0 0 = nI n := by rw [i1 0 (by omega)]; exact e0
      have c3' : f12_commitAt M1 (nI h) (nI i) = some (nI ci) := by
        rw [s12_commitAt g0 hn, i1 5 (by omega), i1 6 (by omega), ← s12_commitAt e0 hn]; exact c3
      have e6' : M1 6 c = nI s := by rw [i1 6 (by omega), e6]; exact h6
      have hv0 := hz i (by omega) (by omega)
      by_cases hu : wP n R h p l i = 3
      · left
        have stay : ∀ d, i + d ≤ s + 1 → wP n R h p l (i + d) = 3 := by
          intro d
          induction d with
          | zero => intro _; exact hu
          | succ d ih =>
            intro hd
            have a := ih (by omega)
            have b := hz (i + d) (by omega) (by omega)
            show wst n R h p l (i + d) (wP n R h p l (i + d)) = 3
            unfold wst
            rw [a, if_neg (fun z => z b)]
            split <;> rfl
        have := stay (s + 1 - i) (by omega)
        rw [show i + (s + 1 - i) = s + 1 by omega] at this
        refine ⟨M1, ?_, i1⟩
        show f12_worthOf_97_s t M1 (nI c) (nI l) (nI h) (wI (wP n R h p l i)) (nI i) = _
        unfold f12_worthOf_97_s
        rw [if_pos (q_inb (show c < 82 by omega) (by omega)), q_nc (by omega), e6', if_pos (by rw [q_le (by omega) (by omega)]; omega), hu, this, if_neg (fun z => z rfl)]
      · right
        have ho : R 5 ci ≠ NO := by rw [c7, ne_eq, q_no_eq (by omega)]; exact fun z => z
        obtain ⟨M2, m1, m2⟩ := s12_kindAt (M := M1) hR (fun k hk => by rw [i1 k (by omega), hkm k (by omega)]) (by rw [i1 64 (by omega)]; exact h64) c2 ho
        obtain ⟨κ, q1, q2⟩ := kindS_lt n R ci
        rw [q2] at m1
        refine ⟨M2, ⟨fun q hq => by rw [m2 q hq, i1 q hq], by omega⟩, ?_⟩
        show f12_worthOf_97_s t M1 (nI c) (nI l) (nI h) (wI (wP n R h p l i)) (nI i) = t M2 (nI c) (nI l) (nI h) (wI (wst n R h p l i (wP n R h p l i))) (nI (i + 1))
        unfold f12_worthOf_97_s f12_worthOf_155
        have e23 : M2 23 = R 23 := by rw [m2 23 (by omega), i1 23 (by omega), hkm 23 (by omega)]
        have en : ¬ wI (wP n R h p l i) = 0 := by rw [wI_0 _ w2]; exact hu
        have e3 : (3 : Int32) * nI l + nI κ = nI (3 * l + κ) := by rw [q_3, q_mul, q_add]
        have ew : wst n R h p l i (wP n R h p l i) = if bt (R 23 (3 * l + κ)) (wP n R h p l i - 1) = true then wP n R h p l i else 3 := by
          unfold wst
          rw [if_neg (fun z => z hv0), c4, q2, q_nc (by omega)]
        rw [ew, if_pos (q_inb (show c < 82 by omega) (by omega)), q_nc (by omega), e6', if_pos (by rw [q_le (by omega) (by omega)]; omega), if_pos en, c3', o1_some, m1, o2_some, e3, if_pos (q_inb (show 3 * l + κ < 6 by omega) (by omega)), q_nc (by omega), e23, wI_2 _ w2 w1, q_succ]
        simp only [b_test (show wP n R h p l i - 1 < 32 by omega)]
        cases bt (R 23 (3 * l + κ)) (wP n R h p l i - 1) with
        | true => rw [if_pos rfl, if_pos rfl]
        | false => rw [if_neg (by simp), if_neg (by simp), wI_3]
    · intro t M1 ⟨i1, i2⟩
      refine ⟨M1, ?_, i1⟩
      show f12_worthOf_97_s t M1 (nI c) (nI l) (nI h) (wI (wP n R h p l (s + 1))) (nI (s + 1)) = _
      unfold f12_worthOf_97_s
      rw [if_pos (q_inb (show c < 82 by omega) (by omega)), q_nc (by omega), i1 6 (by omega), e6, h6, if_neg (by rw [q_le (by omega) (by omega)]; omega)]
  -- at the set where it stops
  have stop : ∀ j, j ≤ s → (∀ i, j < i → i ≤ s → vx n R h p l i = 0) → (j = 0 ∨ vx n R h p l j ≠ 0) → ∃ M', f12_worthOf_52 M (nI p) (nI c) (nI l) (nI h) (nI j) = some (wI (wP n R h p l (s + 1)), M') ∧ scr M' M := by
    intro j hj hz hor
    obtain ⟨cj, c1, c2, c3, c4, c5, c6, c7⟩ := cA j (by omega)
    have key := upw j hj hz
    have ew : wP n R h p l (j + 1) = if vx n R h p l j = 0 then 3 else vx n R h p l j := by
      show wst n R h p l j (wP n R h p l j) = _
      unfold wst
      by_cases hv : vx n R h p l j = 0
      · rw [if_neg (fun z => z hv), if_pos hv]
        have : j = 0 := by rcases hor with h | h; exact h; exact absurd hv h
        subst this
        show (if _ then 3 else 3) = 3
        split <;> rfl
      · rw [if_pos hv, if_neg hv]
    rw [ew] at key
    have e1 : ((12 * nI cj) + (2 * nI p)) + nI l = nI (12 * cj + 2 * p + l) := by rw [q_12, q_2, q_mul, q_mul, q_add, q_add]
    unfold f12_worthOf_52 f12_worthOf_89
    rw [c3, o1_some, e1, if_pos (q_inb (show 12 * cj + 2 * p + l < 960 by omega) (by omega)), q_nc (by omega), c6, q_succ]
    by_cases hv : vx n R h p l j = 0
    · rw [if_pos hv] at key
      rw [hv, if_pos (show nI 0 = 0 from rfl)]
      exact key
    · rw [if_neg hv] at key
      rw [if_neg (by rw [q_0, q_eq (by omega) (by omega)]; exact hv)]
      exact key
  refine rv_wl (z := (fun _ _ _ _ _ _ => none)) (F := f12_worthOf_16_s) (fun t (j : Nat) => t M (nI p) (nI c) (nI l) (nI h) (nI j)) (fun j => j) (fun j => j ≤ s ∧ ∀ i, j < i → i ≤ s → vx n R h p l i = 0) (fun _ r => ∃ M', r = some (wI (wP n R h p l (s + 1)), M') ∧ scr M' M) ?_ rv_FU s ⟨Nat.le_refl _, fun i h1 h2 => absurd h2 (by omega)⟩ (FU_lt (by omega))
  intro t j ⟨hj, hz⟩
  obtain ⟨cj, c1, c2, c3, c4, c5, c6, c7⟩ := cA j (by omega)
  have e1 : ((12 * nI cj) + (2 * nI p)) + nI l = nI (12 * cj + 2 * p + l) := by rw [q_12, q_2, q_mul, q_mul, q_add, q_add]
  have eq : f12_worthOf_16_s t M (nI p) (nI c) (nI l) (nI h) (nI j) = if 0 < j then (if vx n R h p l j = 0 then t M (nI p) (nI c) (nI l) (nI h) (nI (j - 1)) else f12_worthOf_52 M (nI p) (nI c) (nI l) (nI h) (nI j)) else f12_worthOf_52 M (nI p) (nI c) (nI l) (nI h) (nI j) := by
    unfold f12_worthOf_16_s
    rw [c3, o1_some, e1, if_pos (q_inb (show 12 * cj + 2 * p + l < 960 by omega) (by omega)), q_nc (by omega), c6]
    by_cases h0 : 0 < j
    · rw [if_pos (by rw [q_0, q_lt (by omega) (by omega)]; exact h0), if_pos h0, q_no, q_dec h0]
      simp (disch := omega) only [q_0, q_eq]
    · rw [if_neg (by rw [q_0, q_lt (by omega) (by omega)]; exact h0), if_neg h0]
  show (∃ M', f12_worthOf_16_s t M (nI p) (nI c) (nI l) (nI h) (nI j) = _ ∧ _) ∨ _
  rw [eq]
  by_cases h0 : 0 < j
  · by_cases hv : vx n R h p l j = 0
    · right
      refine ⟨j - 1, ⟨by omega, fun i h1 h2 => ?_⟩, by show j - 1 < j; omega, ?_, fun r hr => hr⟩
      · by_cases e : i = j
        · rw [e]; exact hv
        · exact hz i (by omega) h2
      · rw [if_pos h0, if_pos hv]
    · left
      rw [if_pos h0, if_neg hv]
      exact stop j hj hz (Or.inr hv)
  · left
    rw [if_neg h0]
    exact stop j hj hz (Or.inl (by omega))

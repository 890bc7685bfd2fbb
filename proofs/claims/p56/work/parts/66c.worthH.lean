/-! worth, vote -/
theorem any_congr {n : Nat} {p q : Nat → Bool} (h : ∀ k, k < n → p k = q k) : (List.range n).any p = (List.range n).any q := by
  rw [Bool.eq_iff_iff, List.any_eq_true, List.any_eq_true]
  exact ⟨fun ⟨k, k1, k2⟩ => ⟨k, k1, by rw [← h k (by simpa using k1)]; exact k2⟩, fun ⟨k, k1, k2⟩ => ⟨k, k1, by rw [h k (by simpa using k1)]; exact k2⟩⟩
theorem h_worth : ∀ gh MC MR, Rel gh MC MR → ∀ p1 p2 p3 p4, rS_worth Rel gh MC MR p1 p2 p3 p4 := fun gh C R h p1 p2 p3 p4 => by
  obtain ⟨n, hR⟩ := h
  have hn := hR.n80
  have hc := hR.ch20
  unfold rS_worth
  have bad1 : f11_worth gh C p1 p2 p3 p4 = some (.inr 1) → f12_worth R p1 p2 p3 p4 = f12_worth_17 R p1 p2 p3 p4 → (∃ (MR' : rv_Mem) (v : Int32), f11_worth gh C p1 p2 p3 p4 = some (.inr 1) ∧ f12_worth R p1 p2 p3 p4 = some (v, MR') ∧ MR' 66 0 = 1 ∧ Rel gh C MR') := fun h1 h2 => ⟨rv_u R 66 0 1, 0, h1, by rw [h2]; rfl, mu_same _ _ _ _, ⟨n, Rn_66 hR⟩⟩
  rcases d_person gh C p1 with ⟨p, hp, rfl, a1, a2⟩ | ⟨a1, a2⟩
  · rcases hR.dchange p2 with ⟨q, hq, rfl, b1, b2⟩ | ⟨b1, b2⟩
    · rcases hR.dset hq p3 with ⟨s, c, rfl, d1, d2, d3, d4, d5, d6, d7, d8, d9, d10, d11⟩ | ⟨d1, d2⟩
      · obtain ⟨k, k1, k2, k3, k4, -⟩ := hR.sets hq
        have hs : s < k := by rw [k4, q_nc (by omega)] at d2; exact d2
        have eC : f11_worth gh C (nI p) (nI q) (nI s) p4 = rv_x1 (f11_needLabel gh C p4) (fun r14 => rv_o1 (f10_worthOn gh C (100 + q) (nI s) p4 (nI p)) (fun r18 => (some (.inl r18)))) := by
          unfold f11_worth
          rw [a1]; simp only [x1_inl]
          rw [b1]; simp only [x1_inl]
          rw [d9]; simp only [x1_inl]
        have eR : f12_worth R (nI p) (nI q) (nI s) p4 = rv_o1 (f12_isLabel p4) (fun r6 => (if r6 = true then f12_worth_34 R (nI p) (nI q) (nI s) p4 0 else f12_worth_34 R (nI p) (nI q) (nI s) p4 2)) := by
          unfold f12_worth
          rw [a2, o1_some, if_pos rfl, d10, o1_some, if_neg (by simp)]
        rcases d_label gh C p4 with ⟨l, hl, rfl, f1, f2⟩ | ⟨f1, f2⟩
        · left
          have ew := hR.worthC (C1 := C) (p := p) (l := l) hq hp hl k4 k2 hs rfl rfl rfl rfl rfl
          obtain ⟨M', m1, m2⟩ := s12_worthOf (M := rv_u R 66 0 0) hR (fun k hk => mu_ne (by omega)) (by rw [mu_ne (by omega)]; exact hR.h64) hq hp hl k4 k2 hs d8 d6 d7 d4
          refine ⟨wI (wP n R q p l (s + 1)), M', ?_, ?_, ?_, ⟨n, Rn_scr (R := R) (fun k hk => by rw [m2 k (by omega), mu_ne (by omega)]) (by rw [m2 64 (by omega), mu_ne (by omega)]; exact hR.h64) hR⟩⟩
          · rw [eC, f1]; simp only [x1_inl]; rw [ew]; rfl
          · rw [eR, f2, o1_some, if_pos rfl]
            show rv_o1 (f12_commitAt (rv_u R 66 0 0) (nI q) (nI s)) (fun r5 => rv_o2 (f12_worthOf (rv_u R 66 0 0) (nI p) r5 (nI l)) (fun r7 M8 => some (r7, M8))) = _
            rw [commitAt_66 hR, d8, o1_some, m1]; rfl
          · rw [m2 66 (by omega), mu_same]
        · right; right
          refine ⟨rv_u R 66 0 2, 0, ?_, ?_, mu_same _ _ _ _, ⟨n, Rn_66 hR⟩⟩
          · rw [eC, f1]; rfl
          · rw [eR, f2, o1_some, if_neg (by simp)]; rfl
      · right; left
        refine bad1 ?_ ?_
        · unfold f11_worth
          rw [a1]; simp only [x1_inl]
          rw [b1]; simp only [x1_inl]
          rw [d1]; rfl
        · unfold f12_worth
          rw [a2, o1_some, if_pos rfl, d2, o1_some, if_pos rfl]
    · right; left
      refine bad1 ?_ ?_
      · unfold f11_worth
        rw [a1]; simp only [x1_inl]
        rw [b1]; rfl
      · unfold f12_worth
        rw [a2, o1_some, if_pos rfl, isSet_no b2, o1_some, if_pos rfl]
  · right; left
    refine bad1 ?_ ?_
    · unfold f11_worth
      rw [a1]; rfl
    · unfold f12_worth
      rw [a2, o1_some, if_neg (by simp)]
/-- votes, drafts and one set of reviewers changed -/
theorem Rn_vp {n : Nat} {gh : rC_gh} {C C' R R' : rv_Mem} (h : Rn n gh C R) {g : Nat} (hg : g < gh.1 0) (hC : ∀ k, k ≠ 41 → k ≠ 100 + g → (k < 200 ∨ 260 ≤ k) → C' k = C k) (hCf : ∀ j, j ≠ 9 → C' (100 + g) j = C (100 + g) j) (hR : ∀ k, k ≤ 52 → k ≠ 22 → k ≠ 32 → R' k = R k) (h64 : rv_z (R' 64 0) = false)
    (vot : A_vot n (C' 41) (C 42) (R' 22) (R 23)) (rev : A_rev n (gh.1 0) (gh.1 1) C' R') (cmt : A_cmt (gh.1 0) (gh.1 1) n gh C' R') : Rn n gh C' R' := by
  have hn := h.n80
  have hc20 := h.ch20
  have c := fun k (h1 : k ≠ 41) (h2 : k ≠ 100 + g) (h3 : k < 200 ∨ 260 ≤ k) => hC k h1 h2 h3
  have e := fun k (h1 : k ≤ 52) (h2 : k ≠ 22) (h3 : k ≠ 32) => hR k h1 h2 h3
  have efl : ∀ c f, fl R' c f = fl R c f := fun c f => by unfold fl; rw [e 3 (by omega) (by omega) (by omega), e 4 (by omega) (by omega) (by omega)]
  have eki : ∀ c, kindS n R' c = kindS n R c := fun c => by unfold kindS; simp only [e 2 (by omega) (by omega) (by omega), e 5 (by omega) (by omega) (by omega), e 6 (by omega) (by omega) (by omega), efl]
  have epa : ∀ q, parS n R' q = parS n R q := fun q => by unfold parS curS; rw [e 2 (by omega) (by omega) (by omega), e 5 (by omega) (by omega) (by omega), e 6 (by omega) (by omega) (by omega), e 14 (by omega) (by omega) (by omega)]
  have c' := fun k (h1 : k ≠ 41) (h2 : k < 100 ∨ (120 ≤ k ∧ k < 200) ∨ 260 ≤ k) => hC k h1 (by omega) (by omega)
  refine ⟨?_, by rw [c' 14 (by omega) (by omega), c' 15 (by omega) (by omega), e 3 (by omega) (by omega) (by omega), e 4 (by omega) (by omega) (by omega)]; exact h.fil, by rw [c' 16 (by omega) (by omega), c' 17 (by omega) (by omega), c' 18 (by omega) (by omega), e 1 (by omega) (by omega) (by omega), e 2 (by omega) (by omega) (by omega), e 8 (by omega) (by omega) (by omega)]; exact h.bas, by rw [c' 22 (by omega) (by omega), c' 51 (by omega) (by omega), e 1 (by omega) (by omega) (by omega), e 9 (by omega) (by omega) (by omega), e 10 (by omega) (by omega) (by omega)]; exact h.tip, ?_, ?_, ?_, ?_, ?_, ?_, rev, by rw [c' 42 (by omega) (by omega), e 23 (by omega) (by omega) (by omega)]; exact vot, cmt, ?_, ?_, ?_, ?_, h.ok⟩
  · obtain ⟨b1, b2, b3, b4, b5, b6, b7, b8, b9, -⟩ := h.cnt
    exact ⟨b1, by rw [c' 1 (by omega) (by omega)]; exact b2, by rw [e 0 (by omega) (by omega) (by omega)]; exact b3, b4, by rw [e 11 (by omega) (by omega) (by omega)]; exact b5, b6, by rw [e 24 (by omega) (by omega) (by omega)]; exact b7, b8, by rw [e 34 (by omega) (by omega) (by omega)]; exact b9, h64⟩
  · rw [c' 19 (by omega) (by omega), c' 20 (by omega) (by omega), e 5 (by omega) (by omega) (by omega), e 6 (by omega) (by omega) (by omega), e 7 (by omega) (by omega) (by omega), e 14 (by omega) (by omega) (by omega)]
    intro x hx
    rcases h.own x hx with a | ⟨q, s, p, a1, a2⟩
    · exact Or.inl a
    · exact Or.inr ⟨q, s, p, a1, by rw [c' (120 + q) (by omega) (by omega)]; exact a2⟩
  · rw [e 5 (by omega) (by omega) (by omega), e 6 (by omega) (by omega) (by omega), e 14 (by omega) (by omega) (by omega)]
    obtain ⟨s1, s2⟩ := h.set
    refine ⟨fun q hq => ?_, fun q hq hq2 => by rw [c' 23 (by omega) (by omega)]; exact s2 q hq hq2⟩
    have e4 : C' (100 + q) 4 = C (100 + q) 4 := by
      by_cases z : q = g
      · subst z; exact hCf 4 (by omega)
      · rw [c _ (by omega) (by omega) (by omega)]
    rw [c' (120 + q) (by omega) (by omega), e4, c' 23 (by omega) (by omega)]
    exact s1 q hq
  · rw [chg_iff]
    intro q hq
    have base := chg1_cong (R' := R') (e 5 (by omega) (by omega) (by omega)) (e 1 (by omega) (by omega) (by omega)) (e 52 (by omega) (by omega) (by omega)) (fun k h1 h2 => by rw [e k (by omega) (by omega) (by omega)]) (h.chg q hq)
    by_cases z : q = g
    · subst z
      unfold chg1 at base ⊢
      rw [hCf 0 (by omega), hCf 1 (by omega), hCf 2 (by omega), hCf 5 (by omega), hCf 6 (by omega), hCf 7 (by omega), hCf 8 (by omega), hCf 10 (by omega), hCf 11 (by omega), hCf 12 (by omega)]
      exact base
    · rw [c _ (by omega) (by omega) (by omega)]; exact base
  · intro q h1 h2
    rw [e 15 (by omega) (by omega) (by omega), e 16 (by omega) (by omega) (by omega), e 19 (by omega) (by omega) (by omega), e 20 (by omega) (by omega) (by omega)]
    exact h.nw q h1 h2
  · have a := h.par
    unfold A_par at a ⊢
    simp only [epa]
    rw [e 5 (by omega) (by omega) (by omega), e 9 (by omega) (by omega) (by omega), e 13 (by omega) (by omega) (by omega)]
    exact a
  · intro x hx ho
    rw [c' 21 (by omega) (by omega), eki]
    rw [e 5 (by omega) (by omega) (by omega)] at ho
    exact h.kin x hx ho
  · have a := h.fnd
    have hfd := h.cnt.2.2.2.2.2.2.2.1
    intro j hj
    rw [c' (500 + j) (by omega) (by omega), c' (400 + j) (by omega) (by omega), e 14 (by omega) (by omega) (by omega), e 35 (by omega) (by omega) (by omega), e 36 (by omega) (by omega) (by omega), e 37 (by omega) (by omega) (by omega), e 38 (by omega) (by omega) (by omega), e 39 (by omega) (by omega) (by omega), e 40 (by omega) (by omega) (by omega), e 3 (by omega) (by omega) (by omega), e 5 (by omega) (by omega) (by omega), e 6 (by omega) (by omega) (by omega)]
    exact a j hj
  · have := h.ols
    unfold A_ols at this ⊢
    rw [c' 48 (by omega) (by omega), c' 49 (by omega) (by omega), c' 50 (by omega) (by omega), c' 5 (by omega) (by omega), e 41 (by omega) (by omega) (by omega), e 42 (by omega) (by omega) (by omega), e 43 (by omega) (by omega) (by omega), e 44 (by omega) (by omega) (by omega)]; exact this
  · have := h.rul
    unfold A_rul at this ⊢
    rw [c' 4 (by omega) (by omega), c' 43 (by omega) (by omega), c' 44 (by omega) (by omega), c' 45 (by omega) (by omega), c' 46 (by omega) (by omega), c' 47 (by omega) (by omega), e 45 (by omega) (by omega) (by omega), e 46 (by omega) (by omega) (by omega), e 47 (by omega) (by omega) (by omega), e 48 (by omega) (by omega) (by omega), e 49 (by omega) (by omega) (by omega)]; exact this
  · have := h.mis
    unfold A_mis at this ⊢
    rw [c' 12 (by omega) (by omega), c' 13 (by omega) (by omega), c' 0 (by omega) (by omega), e 50 (by omega) (by omega) (by omega), e 51 (by omega) (by omega) (by omega), e 52 (by omega) (by omega) (by omega)]; exact this
theorem s0_takePart {gh : rC_gh} {C : rv_Mem} {g p o : Nat} (hg : g < gh.1 0) (hc : gh.1 0 ≤ 20) (hp : p < 6) (ho : o < 6) (h1 : C (100 + g) 1 = nI o) : ∃ C', f0_takePart gh C (100 + g) (nI p) = some C' ∧ (∀ k, k ≠ 100 + g → C' k = C k) ∧ (∀ j, j ≠ 9 → C' (100 + g) j = C (100 + g) j) ∧ ∀ i, i < 32 → bt (C' (100 + g) 9) i = (bt (C (100 + g) 9) i || (!decide (p = o) && decide (i = p))) := by
  unfold f0_takePart
  rw [if_pos (is1 hg hc), h1]
  by_cases e : p = o
  · subst e
    rw [if_neg (fun z => z rfl)]
    exact ⟨C, rfl, fun _ _ => rfl, fun _ _ => rfl, fun i hi => by simp⟩
  · rw [if_pos (by rw [q_eq (by omega) (by omega)]; exact e)]
    refine ⟨_, rfl, fun k hk => mu_ne hk, fun j hj => mu_ne2 hj, fun i hi => ?_⟩
    rw [mu_same, b_or, b_shl1 p (by omega) i hi]
    simp [e]
theorem wI_toInt : ∀ u, u < 6 → (wI u).toInt = (u : Int) - 3 := by decide
theorem q3_wI : ∀ u, u < 6 → (3 : Int32) + wI u = nI u := by decide
theorem d_val {x : Int32} {g : Nat} (hg : g = 1 ∨ g = 2) : ((-(nI g) ≤ x ∧ ¬ nI g < x ∧ f12_isIn x (-(nI g)) (nI g) = some true) ∧ ∃ u, 3 - g ≤ u ∧ u ≤ 3 + g ∧ x = wI u) ∨ (((-(nI g) ≤ x ∧ nI g < x) ∨ ¬ -(nI g) ≤ x) ∧ f12_isIn x (-(nI g)) (nI g) = some false) := by
  have e1 : (-(nI g)).toInt = -(g : Int) := by rcases hg with rfl | rfl <;> decide
  have e2 : (nI g).toInt = (g : Int) := by rcases hg with rfl | rfl <;> decide
  unfold f12_isIn
  by_cases h1 : -(nI g) ≤ x
  · by_cases h2 : nI g < x
    · right
      have h3 : ¬ x ≤ nI g := by rw [Int32.le_iff_toInt_le]; rw [Int32.lt_iff_toInt_lt] at h2; omega
      exact ⟨Or.inl ⟨h1, h2⟩, by rw [if_pos h1, if_neg h3]⟩
    · left
      have h3 : x ≤ nI g := by rw [Int32.le_iff_toInt_le]; rw [Int32.lt_iff_toInt_lt] at h2; omega
      refine ⟨⟨h1, h2, by rw [if_pos h1, if_pos h3]⟩, (x.toInt + 3).toNat, ?_, ?_, ?_⟩
      · rw [Int32.le_iff_toInt_le] at h1 h3; omega
      · rw [Int32.le_iff_toInt_le] at h1 h3; omega
      · rw [Int32.le_iff_toInt_le] at h1 h3
        apply Int32.toInt_inj.mp
        rw [wI_toInt _ (by omega)]
        omega
  · right
    exact ⟨Or.inr h1, by rw [if_neg h1]⟩

/-! rebase -/
theorem Rn_81 {n : Nat} {gh : rC_gh} {C C' R R' : rv_Mem} (h : Rn n gh C R) (hC : m8 C' C) (hR : m9 R' R) : Rn n gh C' R' := by
  have hn := h.n80
  have hn2 := h.cnt.1.1
  have hc20 := h.ch20
  have e := fun k (hk : k ≤ 52 ∧ k ≠ 3 ∧ k ≠ 4) => hR.1 k (by omega) (by omega) (by omega)
  have d := fun k (hk : k ≠ 7 ∧ k ≠ 8 ∧ k ≠ 14 ∧ k ≠ 15 ∧ (k < 24 ∨ 40 < k)) => hC.1 k (by omega) (by omega) (by omega) (by omega) (by omega)
  have efl : ∀ c f, c < n → f < 4 → fl R' c f = fl R c f := fun c f hc hf => by
    obtain ⟨z, z1, -, z3, -⟩ := h.fil c (Or.inl hc) f hf
    unfold fl
    rw [hR.2.1 _ (by omega), z3, q_nc (by omega)]
    apply List.map_congr_left
    intro p hp
    have hp := List.mem_range.mp hp
    exact hR.2.2 _ (by omega)
  have epa : ∀ q, parS n R' q = parS n R q := fun q => by unfold parS curS; rw [e 2 (by omega), e 5 (by omega), e 6 (by omega), e 14 (by omega)]
  have elt : ∀ x s, (mAt n (R 5) (R 6) x s).toNatClampNeg < n := fun x s => mAt_lt (by omega) (by omega)
  refine ⟨?_, ?_, by rw [d 16 (by omega), d 17 (by omega), d 18 (by omega), e 1 (by omega), e 2 (by omega), e 8 (by omega)]; exact h.bas, by rw [d 22 (by omega), d 51 (by omega), e 1 (by omega), e 9 (by omega), e 10 (by omega)]; exact h.tip, ?_, ?_, ?_, ?_, ?_, ?_, ?_, by rw [d 41 (by omega), d 42 (by omega), e 22 (by omega), e 23 (by omega)]; exact h.vot, ?_, ?_, ?_, ?_, ?_, h.ok⟩
  · obtain ⟨b1, b2, b3, b4, b5, b6, b7, b8, b9, b10⟩ := h.cnt
    exact ⟨b1, by rw [d 1 (by omega)]; exact b2, by rw [e 0 (by omega)]; exact b3, b4, by rw [e 11 (by omega)]; exact b5, b6, by rw [e 24 (by omega)]; exact b7, b8, by rw [e 34 (by omega)]; exact b9, by rw [hR.1 64 (by omega) (by omega) (by omega)]; exact b10⟩
  · intro c hc f hf
    obtain ⟨z, z1, z2, z3, z4⟩ := h.fil c hc f hf
    refine ⟨z, z1, by rw [hC.2.1 _ (by omega)]; exact z2, by rw [hR.2.1 _ (by omega)]; exact z3, fun p hp => ?_⟩
    obtain ⟨v, v1, v2, v3⟩ := z4 p hp
    exact ⟨v, v1, by rw [hC.2.2 _ (by omega)]; exact v2, by rw [hR.2.2 _ (by omega)]; exact v3⟩
  · rw [d 19 (by omega), d 20 (by omega), e 5 (by omega), e 6 (by omega), e 7 (by omega), e 14 (by omega)]
    exact own_c (fun k hk => d k (by omega)) h.own
  · rw [e 5 (by omega), e 6 (by omega), e 14 (by omega)]
    exact set_c (fun k hk => d k (by omega)) (d 23 (by omega)) h.set
  · have a7 := chg_c (C' := C') (fun k hk => d k (by omega)) h.chg
    unfold A_chg at a7 ⊢
    rw [e 5 (by omega), e 1 (by omega), e 12 (by omega), e 13 (by omega), e 15 (by omega), e 16 (by omega), e 17 (by omega), e 18 (by omega), e 20 (by omega), e 21 (by omega), e 52 (by omega)]
    exact a7
  · have a8 := h.nw
    unfold A_new at a8 ⊢
    rw [e 15 (by omega), e 16 (by omega), e 19 (by omega), e 20 (by omega)]
    exact a8
  · have a := h.par
    unfold A_par at a ⊢
    simp only [epa]
    rw [e 5 (by omega), e 9 (by omega), e 13 (by omega)]
    exact a
  · intro c hc ho
    rw [e 5 (by omega)] at ho
    rw [d 21 (by omega), h.kin c hc ho]
    unfold kindS
    rw [e 2 (by omega), e 5 (by omega), e 6 (by omega)]
    have hb := elt (R 5 c) (R 6 c - 1)
    generalize (mAt n (R 5) (R 6) (R 5 c) (R 6 c - 1)).toNatClampNeg = b at hb ⊢
    dsimp only
    have hb2 : (R 2 b).toNatClampNeg < n := h.baselt hb
    have hx2 : (R 2 c).toNatClampNeg < n := h.baselt hc
    have g1 : (List.range 4).all (fun f => decide (fl R' c f = fl R' b f)) = (List.range 4).all (fun f => decide (fl R c f = fl R b f)) := by
      rw [range4_all, range4_all]
      simp only [efl c _ hc (show 0 < 4 by omega), efl c _ hc (show 1 < 4 by omega), efl c _ hc (show 2 < 4 by omega), efl c _ hc (show 3 < 4 by omega), efl b _ hb (show 0 < 4 by omega), efl b _ hb (show 1 < 4 by omega), efl b _ hb (show 2 < 4 by omega), efl b _ hb (show 3 < 4 by omega)]
    have g2 : (List.range 4).all (fun f => allalk (fl R' (R 2 c).toNatClampNeg f) (fl R' c f) (fl R' (R 2 b).toNatClampNeg f) (fl R' b f)) = (List.range 4).all (fun f => allalk (fl R (R 2 c).toNatClampNeg f) (fl R c f) (fl R (R 2 b).toNatClampNeg f) (fl R b f)) := by
      rw [range4_all, range4_all]
      simp only [efl c _ hc (show 0 < 4 by omega), efl c _ hc (show 1 < 4 by omega), efl c _ hc (show 2 < 4 by omega), efl c _ hc (show 3 < 4 by omega), efl b _ hb (show 0 < 4 by omega), efl b _ hb (show 1 < 4 by omega), efl b _ hb (show 2 < 4 by omega), efl b _ hb (show 3 < 4 by omega), efl _ _ hx2 (show 0 < 4 by omega), efl _ _ hx2 (show 1 < 4 by omega), efl _ _ hx2 (show 2 < 4 by omega), efl _ _ hx2 (show 3 < 4 by omega), efl _ _ hb2 (show 0 < 4 by omega), efl _ _ hb2 (show 1 < 4 by omega), efl _ _ hb2 (show 2 < 4 by omega), efl _ _ hb2 (show 3 < 4 by omega)]
    rw [g1, g2]
  · have a11 := rev_c (C' := C') (fun k hk => d k (by omega)) h.rev
    unfold A_rev at a11 ⊢
    rw [e 5 (by omega), e 12 (by omega), e 19 (by omega), e 22 (by omega), e 25 (by omega), e 26 (by omega), e 32 (by omega)]
    exact a11
  · have a13 := cmt_c (C' := C') (fun k hk => d k (by omega)) h.cmt
    intro j hj
    obtain ⟨b1, b2, b3, b4, b5, q, s, f, a, k, d1, d2, d3, d4, d5, d6, d7, d8, d9, d10, d11, d12, d13, d14, d15⟩ := a13 j hj
    rw [e 25 (by omega), e 26 (by omega), e 27 (by omega), e 28 (by omega), e 29 (by omega), e 30 (by omega), e 31 (by omega), e 32 (by omega), e 33 (by omega), e 14 (by omega), e 5 (by omega), e 6 (by omega)]
    refine ⟨b1, b2, b3, b4, b5, q, s, f, a, k, d1, d2, d3, d4, d5, d6, d7, d8, d9, d10, d11, d12, d13, d14, ?_⟩
    rw [hR.2.1 _ (by have := elt (nI q) (nI s); omega)]
    exact d15
  · have a14 := fnd_c (C' := C') (fun k hk => d k (by omega)) h.fnd
    intro j hj
    obtain ⟨q, s, f, a, k, d1, d2, d3, d4, d5, d6, d7, d8, d9, d10, d11, d12, d13, d14, d15⟩ := a14 j hj
    rw [e 35 (by omega), e 36 (by omega), e 37 (by omega), e 38 (by omega), e 39 (by omega), e 40 (by omega), e 14 (by omega), e 5 (by omega), e 6 (by omega)]
    refine ⟨q, s, f, a, k, d1, d2, d3, d4, d5, d6, d7, d8, d9, d10, d11, d12, d13, d14, ?_, d15.2⟩
    rw [hR.2.1 _ (by have := elt (nI q) (nI s); omega)]
    exact d15.1
  · have := h.ols
    unfold A_ols at this ⊢
    rw [d 48 (by omega), d 49 (by omega), d 50 (by omega), d 5 (by omega), e 41 (by omega), e 42 (by omega), e 43 (by omega), e 44 (by omega)]; exact this
  · have := h.rul
    unfold A_rul at this ⊢
    rw [d 4 (by omega), d 43 (by omega), d 44 (by omega), d 45 (by omega), d 46 (by omega), d 47 (by omega), e 45 (by omega), e 46 (by omega), e 47 (by omega), e 48 (by omega), e 49 (by omega)]; exact this
  · have := h.mis
    unfold A_mis at this ⊢
    rw [d 12 (by omega), d 13 (by omega), d 0 (by omega), e 50 (by omega), e 51 (by omega), e 52 (by omega)]; exact this
theorem Rn.newBase {n : Nat} {gh : rC_gh} {C R : rv_Mem} (hR : Rn n gh C R) {h r : Nat} (hh : h < gh.1 0) (ho : R 13 h = nI 0) (hr : r < 2) (f2 : C (100 + h) 2 = nI r) : ∃ b, b < n ∧ f11_newBaseOf gh C (100 + h) = some (nI b) ∧ f12_newBase R (nI h) = some (nI b) ∧ R 1 b = nI r ∧ ∀ e, pch (parS n R) (R 5 b) e ≠ nI h := by
  have hc := hR.ch20
  have hn := hR.n80
  obtain ⟨x, x1, x2, x3, x4⟩ := hR.parent hh
  obtain ⟨⟨ρ, p1⟩, F, p2, p3⟩ := hR.par
  obtain ⟨a0, -⟩ := hR.chg h hh
  have hf : ∀ g, g < gh.1 0 → parS n R g = NO ∨ ∃ g', g' < gh.1 0 ∧ parS n R g = nI g' := fun g hg => by
    obtain ⟨y, -, -, y3, y4⟩ := hR.parent hg
    rw [y3]; exact y4
  have repo : ∀ g, g < gh.1 0 → ∀ r', C (100 + g) 2 = nI r' → r' < 2 → ∀ c, c < n → R 5 c = nI g → R 1 c = nI r' := fun g hg r' h1 h2 c hc h5 => by
    obtain ⟨-, -, ⟨r'', b0, b1, b2, -⟩, -⟩ := hR.chg g hg
    rw [h1, q_eq (by omega) (by omega)] at b1
    subst b1
    exact b2 c hc h5
  have rp : f12_repoOf R (nI h) = some (nI r) := hR.repoM (fun _ _ => rfl) hh f2 hr
  -- the tip
  obtain ⟨⟨t, t1, t2, t3, t4⟩, -⟩ := hR.tip r hr
  have tipC : (if rC_is gh 1 (100 + h) = true then rv_o1 (f9_tipOf gh C (C (100 + h) 2)) (fun r8 => (some r8)) else none) = some (nI t) := by
    unfold f9_tipOf
    rw [if_pos (is1 hh hc), f2, s9_read (L := 2) hr rfl rfl (by omega), o1_some, o1_some, t2]
  have tipR : f12_newBase_21 R (nI h) = some (nI t) := by
    unfold f12_newBase_21
    rw [rp, o1_some, if_pos (q_inb hr (by omega)), q_nc (by omega), t3]
  have tipN : ∀ e, pch (parS n R) (R 5 t) e ≠ nI h := by
    have key : ∀ e, pch (parS n R) (R 5 t) e = NO ∨ ∃ g, g < gh.1 0 ∧ pch (parS n R) (R 5 t) e = nI g ∧ F g := by
      intro e
      induction e with
      | zero =>
        rcases hR.own t t1 with ⟨-, z⟩ | ⟨g, s', p', o1, -, -, o3, -⟩
        · exact Or.inl z
        · exact Or.inr ⟨g, o1, o3, p2 r g hr o1 (by rw [t3, q_nc (by omega)]; exact o3)⟩
      | succ e ih =>
        rw [pch_s]
        rcases ih with z | ⟨g, g1, g2, g3⟩
        · rw [if_pos z]; exact Or.inl rfl
        · rw [g2, if_neg (by rw [q_no_eq (by omega)]; simp), q_nc (by omega)]
          rcases hf g g1 with z | ⟨g', g1', g2'⟩
          · exact Or.inl z
          · exact Or.inr ⟨g', g1', g2', (p3 g g3).2 g' g1' g2'⟩
    intro e z
    rcases key e with y | ⟨g, g1, g2, g3⟩
    · rw [z, q_no_eq (by omega)] at y; exact y
    · rw [z, q_eq (by omega) (by omega)] at g2
      subst g2
      have := (p3 h g3).1
      rw [ho, q_eq (by omega) (by omega)] at this; omega
  rcases x4 with rfl | ⟨g, g1, rfl⟩
  · refine ⟨t, t1, ?_, ?_, t4, tipN⟩
    · unfold f11_newBaseOf
      rw [(hR.findP hh x1).1 rfl, o1_some, om_none]
      exact tipC
    · unfold f12_newBase
      rw [x2, o1_some, q_no, if_neg (fun z => z rfl)]
      exact tipR
  · have hgN : ¬ nI g = NO := by rw [q_no_eq (by omega)]; simp
    have down : ∀ e, pch (parS n R) (nI g) e = NO ∨ ∃ y, y < gh.1 0 ∧ pch (parS n R) (nI g) e = nI y ∧ ρ y < ρ h := by
      intro e
      induction e with
      | zero => exact Or.inr ⟨g, g1, rfl, p1 h g hh x3⟩
      | succ e ih =>
        rw [pch_s]
        rcases ih with z | ⟨y, y1, y2, y3⟩
        · rw [if_pos z]; exact Or.inl rfl
        · rw [y2, if_neg (by rw [q_no_eq (by omega)]; simp), q_nc (by omega)]
          rcases hf y y1 with z | ⟨g', g1', g2'⟩
          · exact Or.inl z
          · exact Or.inr ⟨g', g1', g2', by have := p1 y g' y1 g2'; omega⟩
    have downN : ∀ e, pch (parS n R) (nI g) e ≠ nI h := fun e z => by
      rcases down e with y | ⟨y, y1, y2, y3⟩
      · rw [z, q_no_eq (by omega)] at y; exact y
      · rw [z, q_eq (by omega) (by omega)] at y2
        subst y2; omega
    obtain ⟨-, -, ⟨rg, rg0, rg1, rg2, rg3⟩, ⟨s, s0, s1, s2⟩, -⟩ := hR.chg g g1
    obtain ⟨k, c, k1, k2, k3, k4, c1, c2, c3, c4, c5, c6, c7, c8⟩ := hR.cur hh
    obtain ⟨b, b1, b2, b3, b4⟩ := hR.base c1 c2
    have hb5 : R 5 b = nI g := by
      have := x3
      unfold parS at this
      rw [c7, q_nc (by omega), b3, q_nc (by omega)] at this
      exact this
    have hrg : rg = r := by
      have e1 := rg2 b (by omega) hb5
      have e2 := repo h hh r f2 hr c c2 c4
      rw [b4, e2, q_eq (by omega) (by omega)] at e1
      exact e1.symm
    subst hrg
    have eC : f11_newBaseOf gh C (100 + h) = (if s = 0 then f9_currentOf gh C (nI g) else if s = 1 then some (C (100 + g) 12) else some (nI t)) := by
      unfold f11_newBaseOf
      rw [(hR.findP hh x1).2 g g1 rfl, o1_some, om_some, tipC, if_pos (is1 g1 hc), s1, (hR.chg g g1).1]
      rcases (show s = 0 ∨ s = 1 ∨ s = 2 by omega) with rfl | rfl | rfl
      · rw [if_pos (show nI 0 = 0 from rfl), if_pos rfl]
        cases f9_currentOf gh C (nI g) <;> rfl
      · rw [if_neg (show ¬ nI 1 = 0 by decide), if_pos (show nI 1 = 1 from rfl), if_neg (by omega), if_pos rfl]
      · rw [if_neg (show ¬ nI 2 = 0 by decide), if_neg (show ¬ nI 2 = 1 by decide), if_neg (by omega), if_neg (by omega)]
    have eR : f12_newBase R (nI h) = (if s = 0 then f12_current R (nI g) else if s = 1 then some (R 18 g) else some (nI t)) := by
      have g20 : rv_in (nI g) 20 = true := q_inb (by omega) (by omega)
      unfold f12_newBase
      rw [x2, o1_some, q_no, if_pos hgN, if_pos g20, q_nc (by omega), s2, tipR, if_pos g20, if_pos g20]
      rcases (show s = 0 ∨ s = 1 ∨ s = 2 by omega) with rfl | rfl | rfl
      · rw [if_neg (show ¬ nI 0 = 2 by decide), if_pos (show nI 0 = 0 from rfl), if_pos rfl]
        cases f12_current R (nI g) <;> rfl
      · rw [if_neg (show ¬ nI 1 = 2 by decide), if_neg (show ¬ nI 1 = 0 by decide), if_neg (by omega), if_pos rfl]
      · rw [if_pos (show nI 2 = 2 from rfl), if_neg (by omega), if_neg (by omega)]
    rcases (show s = 0 ∨ s = 1 ∨ s = 2 by omega) with rfl | rfl | rfl
    · rw [if_pos rfl] at eC eR
      obtain ⟨k', c', k1', k2', k3', k4', c1', c2', c3', c4', c5', c6', c7', c8'⟩ := hR.cur g1
      refine ⟨c', c2', ?_, ?_, rg2 c' c2' c4', by rw [c4']; exact downN⟩
      · rw [eC]
        unfold f9_currentOf
        rw [s9_read (L := 20) (by omega) rfl rfl (by omega), o1_some, c3']
      · rw [eR, c8']
    · rw [if_neg (by omega), if_pos rfl] at eC eR
      obtain ⟨c', c1', c2', c3', c4', c5'⟩ := rg3 s2
      refine ⟨c', c1', by rw [eC, c2'], by rw [eR, c3'], c5', fun e => ?_⟩
      rcases c4' with z | z
      · rw [z]
        have : ∀ e, pch (parS n R) NO e = NO := fun e => by
          induction e with
          | zero => rfl
          | succ e ih => rw [pch_s, if_pos ih]
        rw [this, Ne, q_no_eq' (by omega)]; simp
      · rw [z]; exact downN e
    · rw [if_neg (by omega), if_neg (by omega)] at eC eR
      exact ⟨t, t1, eC, eR, t4, tipN⟩
theorem mgd_all {O A B : List Int32} {P : Int32 → Prop} (hO : ∀ x, x ∈ O → P x) (hA : ∀ x, x ∈ A → P x) (hB : ∀ x, x ∈ B → P x) : ∀ x, x ∈ mgd O A B → P x := by
  have msl : ∀ (X : List Int32) a n x, x ∈ sl X a n → x ∈ X := fun X a n x hx => List.mem_of_mem_drop (List.mem_of_mem_take hx)
  have key := up_inv (g := mcs O A B) (fun _ s => ∀ x, x ∈ s.2 → P x) (O.length + 1) 0 (0, []) (fun x hx => by cases hx) (fun j s _ _ hs x hx => by
    have h1 : ∀ x, x ∈ (mcs1 O A B j s).2 → P x := by
      unfold mcs1 mad
      cases hat (hk O A) j with
      | some y =>
        intro x hx
        rcases List.mem_append.mp hx with h | h
        · exact hs x h
        · exact hA x (msl _ _ _ _ h)
      | none =>
        cases hat (hk O B) j with
        | some y =>
          intro x hx
          rcases List.mem_append.mp hx with h | h
          · exact hs x h
          · exact hB x (msl _ _ _ _ h)
        | none => exact hs
    unfold mcs at hx
    rcases List.mem_append.mp hx with h | h
    · exact h1 x h
    · by_cases c : j < O.length ∧ (mcs1 O A B j s).1 ≤ j
      · rw [if_pos c, List.mem_singleton] at h
        rw [h, List.getD_eq_getElem?_getD, List.getElem?_eq_getElem c.1]
        exact hO _ (List.getElem_mem c.1)
      · rw [if_neg c] at h; cases h)
  exact key
theorem copies_81 {M : rv_Mem} : f12_copies M 81 81 = some M := by
  have e81 : (81 : Int32) = nI 81 := rfl
  have idu : ∀ k i, rv_u M k i (M k i) = M := fun k i => by
    funext a b
    unfold rv_u
    by_cases c : a = k ∧ b = i
    · obtain ⟨rfl, rfl⟩ := c
      simp
    · simp [c]
  rw [e81]
  have second : f12_copies_35 rv_FU M (nI 81) (nI 81) (nI 0) = some M := by
    have L := rv_ui (z := (fun _ _ _ _ => none)) (F := f12_copies_35_s) (fun T k M => T M (nI 81) (nI 81) (nI k)) 40 (fun k M' => M' = M) some ?_ ?_ rv_FU 0 M (Nat.zero_le _) (FU_lt (by omega)) rfl
    · obtain ⟨M', rfl, h⟩ := L
      exact h
    · rintro T k M' hk rfl
      refine ⟨rv_u M' 4 (40 * 81 + k) (M' 4 (40 * 81 + k)), idu _ _, ?_⟩
      show f12_copies_35_s T M' (nI 81) (nI 81) (nI k) = _
      unfold f12_copies_35_s
      simp (disch := omega) only [q_no, q_no2, q_0, q_1, q_2, q_3, q_4, q_5, q_6, q_7, q_8, q_10, q_11, q_12, q_15, q_16, q_17, q_20, q_30, q_31, q_32, q_40, q_45, q_60, q_80, q_81, q_82, q_100, q_320, q_328, q_399, q_400, q_3280, q_nc, q_eq, q_lt, q_le, q_add, q_mul, q_in, q_inno, q_no_eq, q_no_eq', q_no_lt, q_lt_no, q_no_le, q_le_no, o1_some, o2_some, lt_do, x1_inl, x1_inr, x2_inl, x2_inr, if_true, if_false, if_pos, if_neg, rvi_t, rvi_f, bt_f, bf_t, bb_t, bb_f, not_true_eq_false, not_false_eq_true]
    · rintro T M' rfl
      show f12_copies_35_s T M' (nI 81) (nI 81) (nI 40) = _
      unfold f12_copies_35_s
      simp (disch := omega) only [q_no, q_no2, q_0, q_1, q_2, q_3, q_4, q_5, q_6, q_7, q_8, q_10, q_11, q_12, q_15, q_16, q_17, q_20, q_30, q_31, q_32, q_40, q_45, q_60, q_80, q_81, q_82, q_100, q_320, q_328, q_399, q_400, q_3280, q_nc, q_eq, q_lt, q_le, q_add, q_mul, q_in, q_inno, q_no_eq, q_no_eq', q_no_lt, q_lt_no, q_no_le, q_le_no, o1_some, o2_some, lt_do, x1_inl, x1_inr, x2_inl, x2_inr, if_true, if_false, if_pos, if_neg, rvi_t, rvi_f, bt_f, bf_t, bb_t, bb_f, not_true_eq_false, not_false_eq_true]
  have L := rv_ui (z := (fun _ _ _ _ => none)) (F := f12_copies_2_s) (fun T k M => T M (nI 81) (nI 81) (nI k)) 4 (fun k M' => M' = M) (fun M' => f12_copies_35 rv_FU M' (nI 81) (nI 81) (nI 0)) ?_ ?_ rv_FU 0 M (Nat.zero_le _) (FU_lt (by omega)) rfl
  · obtain ⟨M', rfl, h⟩ := L
    exact h.trans second
  · rintro T k M' hk rfl
    refine ⟨rv_u M' 3 (4 * 81 + k) (M' 3 (4 * 81 + k)), idu _ _, ?_⟩
    show f12_copies_2_s T M' (nI 81) (nI 81) (nI k) = _
    unfold f12_copies_2_s
    simp (disch := omega) only [q_no, q_no2, q_0, q_1, q_2, q_3, q_4, q_5, q_6, q_7, q_8, q_10, q_11, q_12, q_15, q_16, q_17, q_20, q_30, q_31, q_32, q_40, q_45, q_60, q_80, q_81, q_82, q_100, q_320, q_328, q_399, q_400, q_3280, q_nc, q_eq, q_lt, q_le, q_add, q_mul, q_in, q_inno, q_no_eq, q_no_eq', q_no_lt, q_lt_no, q_no_le, q_le_no, o1_some, o2_some, lt_do, x1_inl, x1_inr, x2_inl, x2_inr, if_true, if_false, if_pos, if_neg, rvi_t, rvi_f, bt_f, bf_t, bb_t, bb_f, not_true_eq_false, not_false_eq_true]
  · rintro T M' rfl
    show f12_copies_2_s T M' (nI 81) (nI 81) (nI 4) = _
    unfold f12_copies_2_s
    simp (disch := omega) only [q_no, q_no2, q_0, q_1, q_2, q_3, q_4, q_5, q_6, q_7, q_8, q_10, q_11, q_12, q_15, q_16, q_17, q_20, q_30, q_31, q_32, q_40, q_45, q_60, q_80, q_81, q_82, q_100, q_320, q_328, q_399, q_400, q_3280, q_nc, q_eq, q_lt, q_le, q_add, q_mul, q_in, q_inno, q_no_eq, q_no_eq', q_no_lt, q_lt_no, q_no_le, q_le_no, o1_some, o2_some, lt_do, x1_inl, x1_inr, x2_inl, x2_inr, if_true, if_false, if_pos, if_neg, rvi_t, rvi_f, bt_f, bf_t, bb_t, bb_f, not_true_eq_false, not_false_eq_true]

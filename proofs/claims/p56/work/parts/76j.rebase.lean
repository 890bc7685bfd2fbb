/-! REBASING; COMMENTS ON AN EMPTY FILE -/
theorem nbX {n : Nat} {gh : rC_gh} {C R A : rv_Mem} (hR : Rn n gh C R) (J : JI n gh R A) {h r : Nat} (hh : h < gh.1 0) (ho : R 13 h = nI 0) (hr : r < 2) (f2 : C (100 + h) 2 = nI r) : ∃ b, b < n ∧ f11_newBaseOf gh C (100 + h) = some (nI b) ∧ f12_newBase R (nI h) = some (nI b) ∧ R 1 b = nI r ∧ (∀ e, pch (parS n R) (R 5 b) e ≠ nI h) ∧ ∀ g, g < gh.1 0 → R 5 b = nI g → curS n R g = nI b := by
  have hc := hR.ch20
  have hn := hR.n80
  obtain ⟨x, x1, x2, x3, x4⟩ := hR.parent hh
  obtain ⟨⟨ρ, p1⟩, F, p2, p3⟩ := hR.par
  obtain ⟨a0, -⟩ := hR.chg h hh
  have hf : ∀ g, g < gh.1 0 → parS n R g = NO ∨ ∃ g', g' < gh.1 0 ∧ parS n R g = nI g' := fun g hg => by
    obtain ⟨y, -, -, y3, y4⟩ := hR.parent hg
    rw [y3]; exact y4
  have repo : ∀ g, g < gh.1 0 → ∀ r', C (100 + g) 2 = nI r' → r' < 2 → ∀ c, c < n → R 5 c = nI g → R 1 c = nI r' := fun g hg r' h1 h2 c hc h5 => by
    obtain ⟨-, -, ⟨r'', b0, b1, b2, -⟩, -⟩ := hR.chg g hg
    rw [h1, q_eq (by omega) (by omega)] at b1
    subst b1
    exact b2 c hc h5
  have rp : f12_repoOf R (nI h) = some (nI r) := hR.repoM (fun _ _ => rfl) hh f2 hr
  -- the tip
  obtain ⟨⟨t, t1, t2, t3, t4⟩, -⟩ := hR.tip r hr
  have tipC : (if rC_is gh 1 (100 + h) = true then rv_o1 (f9_tipOf gh C (C (100 + h) 2)) (fun r8 => (some r8)) else none) = some (nI t) := by
    unfold f9_tipOf
    rw [if_pos (is1 hh hc), f2, s9_read (L := 2) hr rfl rfl (by omega), o1_some, o1_some, t2]
  have tipR : f12_newBase_21 R (nI h) = some (nI t) := by
    unfold f12_newBase_21
    rw [rp, o1_some, if_pos (q_inb hr (by omega)), q_nc (by omega), t3]
  have tipN : ∀ e, pch (parS n R) (R 5 t) e ≠ nI h := by
    have key : ∀ e, pch (parS n R) (R 5 t) e = NO ∨ ∃ g, g < gh.1 0 ∧ pch (parS n R) (R 5 t) e = nI g ∧ F g := by
      intro e
      induction e with
      | zero =>
        rcases hR.own t t1 with ⟨-, z⟩ | ⟨g, s', p', o1, -, -, o3, -⟩
        · exact Or.inl z
        · exact Or.inr ⟨g, o1, o3, p2 r g hr o1 (by rw [t3, q_nc (by omega)]; exact o3)⟩
      | succ e ih =>
        rw [pch_s]
        rcases ih with z | ⟨g, g1, g2, g3⟩
        · rw [if_pos z]; exact Or.inl rfl
        · rw [g2, if_neg (by rw [q_no_eq (by omega)]; simp), q_nc (by omega)]
          rcases hf g g1 with z | ⟨g', g1', g2'⟩
          · exact Or.inl z
          · exact Or.inr ⟨g', g1', g2', (p3 g g3).2 g' g1' g2'⟩
    intro e z
    rcases key e with y | ⟨g, g1, g2, g3⟩
    · rw [z, q_no_eq (by omega)] at y; exact y
    · rw [z, q_eq (by omega) (by omega)] at g2
      subst g2
      have := (p3 h g3).1
      rw [ho, q_eq (by omega) (by omega)] at this; omega
  have tipX : ∀ g, g < gh.1 0 → R 5 t = nI g → curS n R g = nI t := fun g hg z => by
    rw [← (J.tips r g hr hg (by rw [t3, q_nc (by omega)]; exact z)).2]; exact t3
  rcases x4 with rfl | ⟨g, g1, rfl⟩
  · refine ⟨t, t1, ?_, ?_, t4, tipN, tipX⟩
    · unfold f11_newBaseOf
      rw [(hR.findP hh x1).1 rfl, o1_some, om_none]
      exact tipC
    · unfold f12_newBase
      rw [x2, o1_some, q_no, if_neg (fun z => z rfl)]
      exact tipR
  · have hgN : ¬ nI g = NO := by rw [q_no_eq (by omega)]; simp
    have down : ∀ e, pch (parS n R) (nI g) e = NO ∨ ∃ y, y < gh.1 0 ∧ pch (parS n R) (nI g) e = nI y ∧ ρ y < ρ h := by
      intro e
      induction e with
      | zero => exact Or.inr ⟨g, g1, rfl, p1 h g hh x3⟩
      | succ e ih =>
        rw [pch_s]
        rcases ih with z | ⟨y, y1, y2, y3⟩
        · rw [if_pos z]; exact Or.inl rfl
        · rw [y2, if_neg (by rw [q_no_eq (by omega)]; simp), q_nc (by omega)]
          rcases hf y y1 with z | ⟨g', g1', g2'⟩
          · exact Or.inl z
          · exact Or.inr ⟨g', g1', g2', by have := p1 y g' y1 g2'; omega⟩
    have downN : ∀ e, pch (parS n R) (nI g) e ≠ nI h := fun e z => by
      rcases down e with y | ⟨y, y1, y2, y3⟩
      · rw [z, q_no_eq (by omega)] at y; exact y
      · rw [z, q_eq (by omega) (by omega)] at y2
        subst y2; omega
    obtain ⟨-, -, ⟨rg, rg0, rg1, rg2, rg3⟩, ⟨s, s0, s1, s2⟩, -⟩ := hR.chg g g1
    obtain ⟨k, c, k1, k2, k3, k4, c1, c2, c3, c4, c5, c6, c7, c8⟩ := hR.cur hh
    obtain ⟨b, b1, b2, b3, b4⟩ := hR.base c1 c2
    have hb5 : R 5 b = nI g := by
      have := x3
      unfold parS at this
      rw [c7, q_nc (by omega), b3, q_nc (by omega)] at this
      exact this
    have hrg : rg = r := by
      have e1 := rg2 b (by omega) hb5
      have e2 := repo h hh r f2 hr c c2 c4
      rw [b4, e2, q_eq (by omega) (by omega)] at e1
      exact e1.symm
    subst hrg
    have eC : f11_newBaseOf gh C (100 + h) = (if s = 0 then f9_currentOf gh C (nI g) else if s = 1 then some (C (100 + g) 12) else some (nI t)) := by
      unfold f11_newBaseOf
      rw [(hR.findP hh x1).2 g g1 rfl, o1_some, om_some, tipC, if_pos (is1 g1 hc), s1, (hR.chg g g1).1]
      rcases (show s = 0 ∨ s = 1 ∨ s = 2 by omega) with rfl | rfl | rfl
      · rw [if_pos (show nI 0 = 0 from rfl), if_pos rfl]
        cases f9_currentOf gh C (nI g) <;> rfl
      · rw [if_neg (show ¬ nI 1 = 0 by decide), if_pos (show nI 1 = 1 from rfl), if_neg (by omega), if_pos rfl]
      · rw [if_neg (show ¬ nI 2 = 0 by decide), if_neg (show ¬ nI 2 = 1 by decide), if_neg (by omega), if_neg (by omega)]
    have eR : f12_newBase R (nI h) = (if s = 0 then f12_current R (nI g) else if s = 1 then some (R 18 g) else some (nI t)) := by
      have g20 : rv_in (nI g) 20 = true := q_inb (by omega) (by omega)
      unfold f12_newBase
      rw [x2, o1_some, q_no, if_pos hgN, if_pos g20, q_nc (by omega), s2, tipR, if_pos g20, if_pos g20]
      rcases (show s = 0 ∨ s = 1 ∨ s = 2 by omega) with rfl | rfl | rfl
      · rw [if_neg (show ¬ nI 0 = 2 by decide), if_pos (show nI 0 = 0 from rfl), if_pos rfl]
        cases f12_current R (nI g) <;> rfl
      · rw [if_neg (show ¬ nI 1 = 2 by decide), if_neg (show ¬ nI 1 = 0 by decide), if_neg (by omega), if_pos rfl]
      · rw [if_pos (show nI 2 = 2 from rfl), if_neg (by omega), if_neg (by omega)]
    rcases (show s = 0 ∨ s = 1 ∨ s = 2 by omega) with rfl | rfl | rfl
    · rw [if_pos rfl] at eC eR
      obtain ⟨k', c', k1', k2', k3', k4', c1', c2', c3', c4', c5', c6', c7', c8'⟩ := hR.cur g1
      refine ⟨c', c2', ?_, ?_, rg2 c' c2' c4', by rw [c4']; exact downN, fun g' hg' z => ?_⟩
      · rw [eC]
        unfold f9_currentOf
        rw [s9_read (L := 20) (by omega) rfl rfl (by omega), o1_some, c3']
      · rw [eR, c8']
      · rw [c4', q_eq (by omega) (by omega)] at z
        subst z; exact c7'
    · rw [if_neg (by omega), if_pos rfl] at eC eR
      obtain ⟨c', c1', c2', c3', c4', c5'⟩ := rg3 s2
      refine ⟨c', c1', by rw [eC, c2'], by rw [eR, c3'], c5', fun e => ?_, fun g' hg' z => ?_⟩
      · rcases c4' with z | z
        · rw [z]
          have : ∀ e, pch (parS n R) NO e = NO := fun e => by
            induction e with
            | zero => rfl
            | succ e ih => rw [pch_s, if_pos ih]
          rw [this, Ne, q_no_eq' (by omega)]; simp
        · rw [z]; exact downN e
      · rcases c4' with y | y
        · rw [y, q_no_eq' (by omega)] at z; exact z.elim
        · rw [y, q_eq (by omega) (by omega)] at z
          subst z
          rw [← J.lw g g1 s2 (by rw [c3', q_nc (by omega)]; exact y)]; exact c3'
    · rw [if_neg (by omega), if_neg (by omega)] at eC eR
      exact ⟨t, t1, eC, eR, t4, tipN, tipX⟩
section
variable {n n' : Nat} {gh gh' : rC_gh} {C C' R R' M M' A A' : rv_Mem}
theorem t_rebase (hR : Rn n gh C R) (J : JI n gh R A) {p h : Nat} (hp : p < 6) (hh : h < gh.1 0) (a b0 c0 : Int32) :
    (∃ C', gp_act gh C A 6 (nI p) (nI h) a b0 c0 = some (-1263, gh, C') ∧ Rn n gh C' R) ∨ ∃ k C2 R2 b, gp_act gh C A 6 (nI p) (nI h) a b0 c0 = some (nI k, gh, C2) ∧ n < 80 ∧ Rn (n + 1) gh C2 R2 ∧ JI (n + 1) gh R2 A ∧ R 14 h = nI k ∧ k ≤ 80 ∧ R2 14 h = nI (k + 1) ∧ curS (n + 1) R2 h = nI n ∧ b < n ∧ R2 2 n = nI b ∧ R 2 (curS n R h).toNatClampNeg ≠ nI b ∧ (∀ g, g < gh.1 0 → parS (n + 1) R2 h = nI g → curS (n + 1) R2 g = nI b) ∧ R2 52 = R 52 := by
  have hc := hR.ch20
  have hn80 := hR.n80
  obtain ⟨-, -, ⟨r, r0, f2, -⟩, -⟩ := hR.chg h hh
  have bad : ∀ C' (G : Prop), Rn n gh C' R → f11_rebase gh C (nI p) (nI h) = some (.inr (3, C')) → (∃ C', gp_act gh C A 6 (nI p) (nI h) a b0 c0 = some (-1263, gh, C') ∧ Rn n gh C' R) ∨ G := fun C' G z1 z2 => Or.inl ⟨C', by rw [ga_6, z2, x3e, hh3], z1⟩
  have eC : f11_rebase gh C (nI p) (nI h) = rv_x2 (f11_needOpenAndSeen gh C (nI p) (100 + h)) C (fun r10 => rv_o1 (f9_currentOf gh C (nI h)) (fun r14 => rv_o1 (f9_baseOf gh C r14) (fun r16 => rv_o1 (f11_newBaseOf gh C (100 + h)) (fun r18 => (if r18 = r16 then (some (.inr (3, C))) else rv_x2 (f11_needRoomForCommit gh C) C (fun r20 => rv_o2 (f2_mergeRows gh C r16 r14 r18) (fun r24 M25 => (if r24 = false then (some (.inr (3, M25))) else rv_o2 (f11_addSet gh M25 (nI p) (100 + h) 81 r18) (fun r27 M28 => (some (.inl (r27, M28)))))))))))) := by
    unfold f11_rebase
    rw [ok_person hp, x2_inl, ok_change hR hh, x2_inl]
  rcases hR.shut hh hp with ⟨z1, z2, z3⟩ | ⟨z1, z2⟩
  · rw [z1, x2_inl] at eC
    obtain ⟨k, c, k1, k2, k3, k4, c1, c2, c3, c4, c5, c6, c7, c8⟩ := hR.cur hh
    obtain ⟨x, x1, x2, x3, x4⟩ := hR.base c1 c2
    obtain ⟨b, b1, b2, b3, b4, b5, b6⟩ := nbX hR J hh z3 r0 f2
    unfold f9_currentOf f9_baseOf at eC
    rw [s9_read (L := 20) (show h < 20 by omega) rfl rfl (by omega), o1_some, o1_some, c3, s9_read (L := 82) (show c < 82 by omega) rfl rfl (by omega), o1_some, o1_some, x2, b2, o1_some] at eC
    by_cases cb : nI b = nI x
    · rw [if_pos cb] at eC
      exact bad C _ hR eC
    · rw [if_neg cb] at eC
      by_cases cf : n = 80
      · refine bad C _ hR ?_
        rw [eC]
        subst cf
        unfold f11_needRoomForCommit f9_isFull
        rw [hR.cnt.2.1]; rfl
      · have room : f11_needRoomForCommit gh C = some (.inl ()) := by
          unfold f11_needRoomForCommit f9_isFull
          rw [hR.cnt.2.1, q_80, if_neg (by rw [q_le (by omega) (by omega)]; omega)]; rfl
        rw [room, x2_inl] at eC
        obtain ⟨ok, C', R', m1, m2, m3, m4, m5, m6⟩ := hR.merge (show x < n by omega) c2 b1
        rw [m1, o2_some] at eC
        cases ok with
        | false =>
          rw [if_pos rfl] at eC
          exact bad C' _ (Rn_81 hR m4 ⟨fun _ _ _ _ => rfl, fun _ _ => rfl, fun _ _ => rfl⟩) eC
        | true =>
          right
          rw [if_neg (by simp)] at eC
          have hrow := m6 rfl
          have sR : ∀ q, q ≤ 52 → q ≠ 3 → q ≠ 4 → R' q = R q := fun q q1 q3 q4 => m5.1 q q3 q4 (by omega)
          have J' : JI n gh R' A := JI_cong hR m3 (fun q hq => by unfold kJI at hq; exact sR q (by omega) (by omega) (by omega)) J
          have f2' : C' (100 + h) 2 = nI r := by rw [m4.1 (100 + h) (by omega) (by omega) (by omega) (by omega) (by omega)]; exact f2
          obtain ⟨k', C2, R2, w1, w2, w3, w4, w5, w6, ⟨w7, w8⟩, w9, F⟩ := Rn_uplJ m3 J' (by omega) (s := 81) (b := b) (r := r) (h := h) (p := p) (a3 := 81) (Rc := R') hh (by rw [sR 13 (by omega) (by omega) (by omega)]; exact z3) hp (by omega) (by omega) b1 r0 f2' (by rw [sR 1 (by omega) (by omega) (by omega)]; exact b4) copies_81 (fun _ _ _ => rfl) (fun _ _ => rfl) (fun _ _ => rfl) hrow (fun e z => by
            have pe : parS n R' = parS n R := by
              funext g
              unfold parS curS
              rw [sR 5 (by omega) (by omega) (by omega), sR 6 (by omega) (by omega) (by omega), sR 14 (by omega) (by omega) (by omega), sR 2 (by omega) (by omega) (by omega)]
            rw [pe, sR 5 (by omega) (by omega) (by omega)] at z
            exact b5 e z)
          obtain ⟨g1, g2, g3, g4, g5, g6, -⟩ := F
          have hkk : k' = k := by
            rw [sR 14 (by omega) (by omega) (by omega), k3, q_eq (by omega) (by omega)] at w5
            exact w5.symm
          subst hkk
          have o5 : ∀ c, c < n → R2 5 c = R 5 c := fun c hc => by rw [(g4 c (by omega)).2.1, sR 5 (by omega) (by omega) (by omega)]
          have o6 : ∀ c, c < n → R2 6 c = R 6 c := fun c hc => by rw [(g4 c (by omega)).2.2, sR 6 (by omega) (by omega) (by omega)]
          have cN : curS (n + 1) R2 h = nI n := by
            unfold curS
            rw [g5, q_1, q_sub (by omega), Nat.add_sub_cancel]
            exact mAt_eq g2 g3
          refine ⟨k', C2, R2, b, ?_, by omega, w3, w9, k3, k2, g5, cN, b1, w7, ?_, fun g hg z => ?_, ?_⟩
          · rw [ga_6, eC, show (81 : Int32) = nI 81 from rfl, w1, o2_some, x3k]
          · rw [c7, q_nc (by omega), x3]
            exact fun z => cb z.symm
          · unfold parS at z
            rw [cN, q_nc (by omega), w7, q_nc (by omega), o5 b b1] at z
            have hgh : g ≠ h := fun e => by
              subst e
              exact b5 0 z
            have e14 : R2 14 g = R 14 g := by rw [(g6 g hgh).1, sR 14 (by omega) (by omega) (by omega)]
            rw [← b6 g hg z]
            unfold curS
            rw [e14]
            exact mAt_ge o5 o6 (fun y => by
              have y1 := y.1
              rw [g2, q_eq (by omega) (by omega)] at y1
              omega)
          · rw [g1 52 (by omega) (by omega) (by omega) (by omega) (by omega) (by omega), sR 52 (by omega) (by omega) (by omega)]
  · rw [z1] at eC
    exact bad C _ hR eC
theorem t_comment0 (hR : Rn n gh C R) {p q s f kk c : Nat} {w : Bool} (hp : p < 6) (hq : q < gh.1 0) (h14 : R 14 q = nI kk) (hk80 : kk ≤ 80) (hs : s < kk) (hf : f < 4) (hcn : c < n) (ec : mAt n (R 5) (R 6) (nI q) (nI s) = nI c) (hL : (fl R c f).length = 0) :
    gp_commented_22 A gh C (nI p) (nI q) (nI s) (nI f) (nI 0) (nI 1) w = some (-1262, gh, C) := by
  have hn := hR.n80
  obtain ⟨c', c1, c2, c3, c4, c5, c6, c7⟩ := ok_set hR hq h14 hk80 hs
  rw [c6] at ec
  have e' : c' = c := by rw [q_eq (by omega) (by omega)] at ec; exact ec
  subst e'
  have F := fil_files hR.fil (c := c') (f := f) (Or.inl c2) hf
  have nl : f11_needLines gh C (nI c') (nI f) (nI 0) (nI 1) = some (.inr 2) := by
    unfold f11_needLines
    rw [s9_sizeOf (by omega) hf, F.1.2.1, o1_some, hL]
    rfl
  have eC : f11_comment gh C (nI p) (nI q) (nI s) (nI f) (nI 0) (nI 1) w = some (.inr 2) := by
    unfold f11_comment
    rw [ok_person hp, x1_inl, ok_change hR hq, x1_inl, c7, x1_inl, ok_file hf, x1_inl, if_neg (by rw [q_1, q_lt (by omega) (by omega)]; omega), nl]
    rfl
  unfold gp_commented_22
  rw [eC, xme]
  rfl
end

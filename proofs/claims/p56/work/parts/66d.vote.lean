/-! vote -/
/-- a vote is cast, its person takes part -/
theorem Rn_cast {n : Nat} {gh : rC_gh} {C R : rv_Mem} (hR : Rn n gh C R) {q c p l u k : Nat} (hq : q < gh.1 0) (hp : p < 6) (hl : l < 2) (hu : 1 ≤ u ∧ u ≤ 5) (hul : l = 1 → 2 ≤ u ∧ u ≤ 4) (hcn : c < n) (h5 : R 5 c = nI q) (hk : R 14 q = nI k) (R1 : rv_Mem) (hR1 : ∀ j, j ≠ 22 → j ≠ 66 → R1 j = R j) (h22 : R1 22 = rv_u R 22 (12 * c + 2 * p + l) (nI u) 22) :
    ∃ C1 C2, f10_castVote gh C (nI c) (nI l) (nI p) (wI u) = some C1 ∧ f0_takePart gh C1 (100 + q) (nI p) = some C2 ∧ Rn n gh C2 R1 := by
  have hn := hR.n80
  have hc := hR.ch20
  obtain ⟨o, o1, o2, o3⟩ := (hR.chg q hq).2.1
  have e1 : f10_castVote gh C (nI c) (nI l) (nI p) (wI u) = some (rv_u C 41 ((2 * c + l) * 6 + p) (wI u)) := by
    unfold f10_castVote f10_indexOf
    have e : ((nI c * 2 + nI l) * 6 + nI p) = nI ((2 * c + l) * 6 + p) := by rw [q_2, q_6, q_mul, q_add, q_mul, q_add]; congr 1; omega
    rw [o1_some, e, s9_write (L := 960) (by omega) (by decide) rfl (by omega), o1_some]
  obtain ⟨C2, t1, t2, t3, t4⟩ := s0_takePart (gh := gh) (C := rv_u C 41 ((2 * c + l) * 6 + p) (wI u)) hq hc hp o1 (by rw [mu_ne (by omega)]; exact o2)
  refine ⟨_, C2, e1, t1, Rn_vp hR hq (fun j h1 h2 _ => by rw [t2 j h2, mu_ne h1]) (fun j hj => by rw [t3 j hj, mu_ne (by omega)]) (fun j h1 h2 h3 => hR1 j h2 (by omega)) (by rw [hR1 64 (by omega) (by omega)]; exact hR.h64) ?_ ?_ ?_⟩
  · obtain ⟨v1, v2⟩ := hR.vot
    refine ⟨fun c' l' p' hc' hl' hp' => ?_, v2⟩
    rw [t2 41 (by omega), h22]
    by_cases e : c' = c ∧ l' = l ∧ p' = p
    · obtain ⟨rfl, rfl, rfl⟩ := e
      right
      exact ⟨hcn, u, hu.1, hu.2, hul, mu_same _ _ _ _, mu_same _ _ _ _⟩
    · rw [mu_ne2 (by omega), mu_ne2 (by omega)]
      exact v1 c' l' p' hc' hl' hp'
  · intro h hh i hi
    have e22 : ∀ c' i' l', l' < 2 → i' < 6 → (c' ≠ c ∨ i' ≠ p) → R1 22 (12 * c' + 2 * i' + l') = R 22 (12 * c' + 2 * i' + l') := fun c' i' l' hl' hi' hne => by rw [h22, mu_ne2 (by omega)]
    have base := hR.rev h hh i hi
    unfold revB
    rw [hR1 5 (by omega) (by omega), hR1 12 (by omega) (by omega), hR1 19 (by omega) (by omega), hR1 25 (by omega) (by omega), hR1 26 (by omega) (by omega), hR1 32 (by omega) (by omega)]
    by_cases hsame : h = q ∧ i = p
    · obtain ⟨rfl, rfl⟩ := hsame
      rw [t4 i hi, mu_ne (by omega), base]
      unfold revB
      rw [o3]
      by_cases eo : i = o
      · subst eo; simp
      · have en : ¬ nI o = nI i := by rw [q_eq (by omega) (by omega)]; exact fun z => eo z.symm
        have hany : (List.range n).any (fun c' => decide (R 5 c' = nI h) && decide (i < 6) && (decide (R1 22 (12 * c' + 2 * i) ≠ 0) || decide (R1 22 (12 * c' + 2 * i + 1) ≠ 0))) = true := by
          rw [List.any_eq_true]
          refine ⟨c, by simpa using hcn, ?_⟩
          have hu0 : ¬ nI u = 0 := by rw [q_0, q_eq (by omega) (by omega)]; omega
          rw [decide_eq_true h5, decide_eq_true hp]
          by_cases el : l = 0
          · subst el
            have : R1 22 (12 * c + 2 * i) = nI u := by rw [h22, Nat.add_zero, mu_same]
            rw [this, decide_eq_true hu0]; rfl
          · have : R1 22 (12 * c + 2 * i + 1) = nI u := by rw [h22, show 12 * c + 2 * i + 1 = 12 * c + 2 * i + l by omega, mu_same]
            rw [this, decide_eq_true hu0]; simp
        rw [hany]
        simp [en, eo]
    · have hC : bt (C2 (100 + h) 9) i = bt (C (100 + h) 9) i := by
        by_cases eh : h = q
        · subst eh
          rw [t4 i hi, mu_ne (by omega)]
          simp [show ¬ i = p from fun z => hsame ⟨rfl, z⟩]
        · rw [t2 _ (by omega), mu_ne (by omega)]
      rw [hC, base]
      unfold revB
      congr 2
      apply any_congr
      intro c' hc'
      by_cases hi6 : i < 6
      · by_cases hown : R 5 c' = nI h
        · have hne : c' ≠ c ∨ i ≠ p := by
            by_cases ec : c' = c
            · right
              subst ec
              intro ei
              rw [h5, q_eq (by omega) (by omega)] at hown
              exact hsame ⟨hown.symm, ei⟩
            · exact Or.inl ec
          have a0 := e22 c' i 0 (by omega) hi6 hne
          have a1 := e22 c' i 1 (by omega) hi6 hne
          rw [Nat.add_zero] at a0
          rw [a0, a1]
        · rw [decide_eq_false hown]; simp
      · simp [hi6]
  · have hcm := hR.cnt.2.2.2.2.2.1
    intro j hj
    have o7 := (hR.cmt j hj).2.2.2.2.1
    have ge := ok_pl2 o7
    have f : ∀ k, 200 ≤ k → C2 k = C k := fun k hk => by rw [t2 k (by omega), mu_ne (by omega)]
    rw [f (200 + j) (by omega), f (gh.2 (200 + j)) (by omega), hR1 25 (by omega) (by omega), hR1 31 (by omega) (by omega), hR1 33 (by omega) (by omega), hR1 32 (by omega) (by omega), hR1 14 (by omega) (by omega), hR1 26 (by omega) (by omega), hR1 27 (by omega) (by omega), hR1 28 (by omega) (by omega), hR1 29 (by omega) (by omega), hR1 30 (by omega) (by omega), hR1 3 (by omega) (by omega), hR1 5 (by omega) (by omega), hR1 6 (by omega) (by omega)]
    exact hR.cmt j hj
theorem h_vote : ∀ gh MC MR, Rel gh MC MR → ∀ p1 p2 p3 p4 p5, rS_vote Rel gh MC MR p1 p2 p3 p4 p5 := fun gh C R h p1 p2 p3 p4 p5 => by
  obtain ⟨n, hR⟩ := h
  have hn := hR.n80
  have hc := hR.ch20
  unfold rS_vote
  have hR1 : Rn n gh C (rv_u R 66 0 0) := Rn_66 hR
  have bad1 : f11_vote gh C p1 p2 p3 p4 p5 = some (.inr (1, C)) → f12_vote R p1 p2 p3 p4 p5 = f12_vote_21 R p1 p2 p3 p4 p5 → (∃ (MC' MR' : rv_Mem) (v : Int32), f11_vote gh C p1 p2 p3 p4 p5 = some (.inr (1, MC')) ∧ f12_vote R p1 p2 p3 p4 p5 = some (v, MR') ∧ MR' 66 0 = 1 ∧ Rel gh MC' MR') := fun h1 h2 => ⟨C, rv_u R 66 0 1, 0, h1, by rw [h2]; rfl, mu_same _ _ _ _, ⟨n, Rn_66 hR⟩⟩
  rcases d_person gh C p1 with ⟨p, hp, rfl, a1, a2⟩ | ⟨a1, a2⟩
  · rcases hR.dchange p2 with ⟨q, hq, rfl, b1, b2⟩ | ⟨b1, b2⟩
    · rcases hR.dset hq p3 with ⟨s, c, rfl, d1, d2, d3, d4, d5, d6, d7, d8, d9, d10, d11⟩ | ⟨d1, d2⟩
      · obtain ⟨k, k1, k2, k3, k4, -⟩ := hR.sets hq
        have eC : f11_vote gh C (nI p) (nI q) (nI s) p4 p5 = rv_x2 (f11_needLabel gh C p4) C (fun r14 => (if p4 = 0 then f11_vote_34 gh C (nI p) p4 p5 (100 + q) (nI c) 2 else f11_vote_34 gh C (nI p) p4 p5 (100 + q) (nI c) 1)) := by
          unfold f11_vote
          rw [a1]; simp only [x2_inl]
          rw [b1]; simp only [x2_inl]
          rw [d9]; simp only [x2_inl]
        have eR : f12_vote R (nI p) (nI q) (nI s) p4 p5 = rv_o1 (f12_isLabel p4) (fun r5 => (if r5 = true then (if p4 = 0 then f12_vote_51 (rv_u R 66 0 0) (nI p) (nI q) (nI s) p4 p5 p5 (-2) else f12_vote_51 (rv_u R 66 0 0) (nI p) (nI q) (nI s) p4 p5 p5 (-1)) else f12_vote_71 (rv_u R 66 0 0) (nI p) (nI q) (nI s) p4 p5)) := by
          unfold f12_vote
          rw [a2, o1_some, if_pos rfl, d10, o1_some, if_pos rfl]
          rfl
        have two : f11_vote gh C (nI p) (nI q) (nI s) p4 p5 = some (.inr (2, C)) → f12_vote R (nI p) (nI q) (nI s) p4 p5 = f12_vote_71 (rv_u R 66 0 0) (nI p) (nI q) (nI s) p4 p5 → (∃ (MC' MR' : rv_Mem) (v : Int32), f11_vote gh C (nI p) (nI q) (nI s) p4 p5 = some (.inr (2, MC')) ∧ f12_vote R (nI p) (nI q) (nI s) p4 p5 = some (v, MR') ∧ MR' 66 0 = 2 ∧ Rel gh MC' MR') := fun h1 h2 => ⟨C, rv_u (rv_u R 66 0 0) 66 0 2, 0, h1, by rw [h2]; rfl, mu_same _ _ _ _, ⟨n, Rn_66 hR1⟩⟩
        rcases d_label gh C p4 with ⟨l, hl, rfl, f1, f2⟩ | ⟨f1, f2⟩
        · -- the greatest value of the label
          obtain ⟨g, hg, hgl, eC2, eR2⟩ : ∃ g, (g = 1 ∨ g = 2) ∧ (l = 1 → g = 1) ∧ f11_vote gh C (nI p) (nI q) (nI s) (nI l) p5 = f11_vote_34 gh C (nI p) (nI l) p5 (100 + q) (nI c) (nI g) ∧ f12_vote R (nI p) (nI q) (nI s) (nI l) p5 = f12_vote_61 (rv_u R 66 0 0) (nI p) (nI q) (nI s) (nI l) p5 p5 (-(nI g)) (nI g) := by
            rw [f1] at eC
            simp only [x2_inl] at eC
            rw [f2, o1_some, if_pos rfl] at eR
            by_cases e : l = 0
            · subst e
              exact ⟨2, Or.inr rfl, fun z => by omega, eC, eR⟩
            · have e1 : l = 1 := by omega
              subst e1
              exact ⟨1, Or.inl rfl, fun _ => rfl, eC, eR⟩
          rcases d_val (x := p5) hg with ⟨⟨x1, x2, x3⟩, u, u1, u2, rfl⟩ | ⟨x1, x2⟩
          · unfold f11_vote_34 at eC2
            rw [if_pos x1, if_neg x2] at eC2
            unfold f12_vote_61 at eR2
            rw [x3, o1_some, if_pos rfl] at eR2
            unfold f12_vote_72 at eR2
            rw [if_neg (by simp)] at eR2
            rcases hR.shut hq hp with ⟨s1, -, -⟩ | ⟨s1, -⟩
            · rcases hR1.shut hq hp with ⟨-, s2, s3⟩ | ⟨s1', -⟩
              · rw [s1] at eC2
                simp only [x2_inl] at eC2
                rw [s2, o1_some, if_neg (by simp)] at eR2
                have ew : (12 * nI c) + (2 * nI p) + nI l = nI (12 * c + 2 * p + l) := by rw [q_12, q_2, q_mul, q_mul, q_add, q_add]
                have y : ∀ j, j ≠ 22 → j ≠ 66 → (rv_u (rv_u (rv_u R 66 0 0) 66 0 0) 22 (12 * c + 2 * p + l) (nI u)) j = R j := fun j h1 h2 => by rw [mu_ne h1, mu_ne h2, mu_ne h2]
                have e98 : f12_vote_98 (rv_u R 66 0 0) (nI p) (nI q) (nI s) (nI l) (wI u) 0 = rv_o1 (f12_tells (rv_u (rv_u (rv_u R 66 0 0) 66 0 0) 22 (12 * c + 2 * p + l) (nI u)) (nI q) (nI p)) (fun M8 => rv_o1 (f12_turnsOn M8 (nI q) (nI p) true) (fun M10 => rv_o1 (f12_current M10 (nI q)) (fun r12 => rv_o2 (f12_worthOf M10 (nI p) r12 (nI l)) (fun r14 M15 => (some (r14, M15)))))) := by
                  unfold f12_vote_98
                  show rv_o1 (f12_commitAt (rv_u (rv_u R 66 0 0) 66 0 0) (nI q) (nI s)) _ = _
                  rw [commitAt_66 hR1, mu_ne (by omega), mu_ne (by omega), d8, o1_some, ew, if_pos (q_inb (show 12 * c + 2 * p + l < 960 by omega) (by omega)), q_nc (by omega), q3_wI u (by omega)]
                  rfl
                rw [e98] at eR2
                obtain ⟨C1, C2, t1, t2, t3⟩ := Rn_cast (c := c) (l := l) (u := u) hR hq hp hl (by omega) (fun z => by have := hgl z; omega) d4 d6 k4 (rv_u (rv_u (rv_u R 66 0 0) 66 0 0) 22 (12 * c + 2 * p + l) (nI u)) y (by funext j; unfold rv_u; by_cases ej : j = 12 * c + 2 * p + l <;> simp [ej])
                obtain ⟨C3, C4, R3, R4, z1, z2, z3, z4, z5, z6, z7, z8⟩ := Rn_pass t3 hq hp false
                have z4 : f12_turnsOn R3 (nI q) (nI p) true = some R4 := z4
                have k4' : R4 14 q = nI k := by rw [z8, y 14 (by omega) (by omega)]; exact k4
                obtain ⟨x, M', w1, w2, w3⟩ := z5.worthM (M := R4) (p := p) (l := l) (fun _ _ => rfl) z5.h64 hq hp hl k4' k2
                have k3' : C4 (100 + q) 4 = nI k := by
                  obtain ⟨k', -, k2', k3', k4'', -⟩ := z5.sets hq
                  rw [k4', q_eq (by omega) (by omega)] at k4''
                  rw [k3', k4'']
                have ewc := z5.worthC (C1 := C4) (p := p) (l := l) (s := k - 1) hq hp hl k4' k2 (by omega) rfl rfl rfl rfl rfl
                rw [show k - 1 + 1 = k by omega] at ewc
                left
                refine ⟨wI (wP n R4 q p l k), C4, M', ?_, ?_, ?_, ⟨n, Rn_scr (R := R4) (fun k hk => w3 k (by omega)) (by rw [w3 64 (by omega)]; exact z5.h64) z5⟩⟩
                · rw [eC2, t1, o1_some, if_pos (is1 hq hc), t2, o1_some, z1, o1_some, z2, o1_some, k3', show nI k - 1 = nI (k - 1) from q_sub k1, ewc]
                  rfl
                · rw [eR2, z3, o1_some, z4, o1_some, w1, o1_some, w2]
                  rfl
                · rw [w3 66 (by omega), z6, mu_ne (by omega), mu_same]
              · rw [s1] at s1'; cases s1'
            · rcases hR1.shut hq hp with ⟨s1', -, -⟩ | ⟨-, s2⟩
              · rw [s1] at s1'; cases s1'
              · rw [s2, o1_some, if_pos rfl] at eR2
                right; right; right
                exact ⟨C, rv_u (rv_u R 66 0 0) 66 0 3, 0, by rw [eC2, s1]; rfl, by rw [eR2]; rfl, mu_same _ _ _ _, ⟨n, Rn_66 hR1⟩⟩
          · right; right; left
            refine two ?_ ?_
            · rw [eC2]
              unfold f11_vote_34
              rcases x1 with ⟨x1, x3⟩ | x1
              · rw [if_pos x1, if_pos x3]
              · rw [if_neg x1]
            · rw [eR2]
              unfold f12_vote_61
              rw [x2, o1_some, if_neg (by simp)]
        · right; right; left
          refine two ?_ ?_
          · rw [eC, f1]; rfl
          · rw [eR, f2, o1_some, if_neg (by simp)]
      · right; left
        refine bad1 ?_ ?_
        · unfold f11_vote
          rw [a1]; simp only [x2_inl]
          rw [b1]; simp only [x2_inl]
          rw [d1]; rfl
        · unfold f12_vote
          rw [a2, o1_some, if_pos rfl, d2, o1_some, if_neg (by simp)]
    · right; left
      refine bad1 ?_ ?_
      · unfold f11_vote
        rw [a1]; simp only [x2_inl]
        rw [b1]; rfl
      · unfold f12_vote
        rw [a2, o1_some, if_pos rfl, isSet_no b2, o1_some, if_neg (by simp)]
  · right; left
    refine bad1 ?_ ?_
    · unfold f11_vote
      rw [a1]; rfl
    · unfold f12_vote
      rw [a2, o1_some, if_neg (by simp)]

/-! takeFixes -/
theorem h_takeFixes : ∀ gh MC MR, Rel gh MC MR → ∀ p1 p2, rS_takeFixes Rel gh MC MR p1 p2 := fun gh C R h0 p1 x => by
  obtain ⟨n, hRR⟩ := h0
  have hc20 := hRR.ch20
  have hn80 := hRR.n80
  rcases asks_in hRR p1 with ⟨h, hh, rfl, e1, e2⟩ | ⟨e1, e2⟩
  · have hRS : Rn n gh C (rv_u R 66 0 0) := Rn_66 hRR
    generalize hSe : rv_u R 66 0 0 = S at hRS e2
    have hR : Rn n gh C (rv_u S 66 0 0) := Rn_66 hRS
    have g0 : f12_goes S 0 = some (true, rv_u S 66 0 0) := rfl
    generalize hTe : rv_u S 66 0 0 = T at hR g0
    have sT : ∀ q, q ≠ 66 → S q = T q := fun q hq => by rw [← hTe, mu_ne hq]
    obtain ⟨k, c, k1, k2, k3, k4, c1, c2, c3, c4, c5, c6, c7, c8⟩ := hR.cur hh
    obtain ⟨b, b1, b2, b3, -⟩ := hR.base c1 c2
    obtain ⟨a0, -⟩ := hR.chg h hh
    have hF := hR.cnt.2.2.2.2.2.2.2.1
    have h34 := hR.cnt.2.2.2.2.2.2.2.2.1
    obtain ⟨bf, f1, f2⟩ := s12_areFindings (R := S) (h := h) (F := gh.1 2) (x := x) (by omega) hF (by rw [sT 34 (by omega)]; exact h34)
    have fo : fOK S h (gh.1 2) x = fOK T h (gh.1 2) x := by
      unfold fOK pos
      rw [vis_cong (sT 14 (by omega)) (sT 35 (by omega)) (sT 36 (by omega))]
    have f2 : bf = true ↔ fOK S h (gh.1 2) x := f2
    rw [fo] at f2
    have eC : f11_takeFixes gh C (nI h) x = rv_x2 (f11_chooseFixes gh C (nI c) x) C (fun r9 => rv_o1 (f11_isSomeTouching gh C r9) (fun r13 => (if r13 = true then (some (.inr (3, C))) else f11_takeFixes_47 gh rv_FU C x (nI c) r9 0))) := by
      unfold f11_takeFixes f9_currentOf
      rw [e1, x2_inl, if_pos (is1 hh hc20), a0, s9_read (L := 20) (show h < 20 by omega) rfl rfl (by omega), o1_some, o1_some, c3]
    have eR : f12_takeFixes R (nI h) x = if bf = true then f12_takeFixes_23 S (nI h) x 0 else f12_takeFixes_23 S (nI h) x 2 := by
      unfold f12_takeFixes
      rw [e2, o2_some, if_pos rfl, f1, o1_some]
    have g3 : ∀ M : rv_Mem, f12_takeFixes_54 M (nI h) x = some (0, rv_u M 66 0 3) := fun M => by
      unfold f12_takeFixes_54 f12_takeFixes_55
      have : f12_goes M 3 = some (false, rv_u M 66 0 3) := rfl
      rw [this, o2_some, if_pos rfl]
    rcases s11_choose (x := x) hR k1 k2 c2 hh k3 c4 c5 c7 with ⟨d1, d2⟩ | ⟨L, d1, d2, d3⟩
    · right; right; left
      have hb : bf = false := by
        cases bf with
        | false => rfl
        | true => exact absurd (f2.mp rfl) d2
      refine ⟨C, rv_u S 66 0 2, 0, ?_, ?_, mu_same _ _ _ _, ⟨n, Rn_66 hRS⟩⟩
      · rw [eC, d1]; rfl
      · rw [eR, hb, if_neg (by simp)]
        unfold f12_takeFixes_23
        have : f12_goes S 2 = some (false, rv_u S 66 0 2) := rfl
        rw [this, o2_some, if_pos rfl]
    · have hb : bf = true := f2.mpr d2
      rw [hb, if_pos rfl] at eR
      rw [d1, x2_inl] at eC
      have hfT : ∀ u, u < gh.1 2 → T 37 u = nI (ff T u) ∧ T 38 u = nI (fa T u) ∧ T 39 u = nI (fk T u) ∧ ff T u < 4 ∧ fa T u + fk T u ≤ 10 := fun u hu => by
        obtain ⟨a1, a2, a3, a4, a5, a6, a7, a8, a9, a10⟩ := hR.fnd1 hu
        exact ⟨a1, a2, a3, a8, a9⟩
      obtain ⟨bt', t1, t2⟩ := s11_touching hR d3
      obtain ⟨ba, u1, u2⟩ := s12_allApart (R := T) (h := h) (F := gh.1 2) (x := x) hfT (by omega) hF h34 d2
      rw [t1, o1_some] at eC
      have eR2 : f12_takeFixes R (nI h) x = if ba = true then rv_o2 (f12_areShort T (nI h) x) (fun r7 M8 => (if r7 = true then f12_takeFixes_55 M8 (nI h) x 0 else f12_takeFixes_54 M8 (nI h) x)) else f12_takeFixes_54 T (nI h) x := by
        rw [eR]
        unfold f12_takeFixes_23
        rw [g0, o2_some, if_neg (by simp), u1, o1_some]
      have bad3 : ∀ C' M, Rn n gh C' M → f11_takeFixes gh C (nI h) x = some (.inr (3, C')) → f12_takeFixes R (nI h) x = f12_takeFixes_54 M (nI h) x → rS_takeFixes Rel gh C R (nI h) x := fun C' M hM y1 y2 => by
        right; right; right
        exact ⟨C', rv_u M 66 0 3, 0, y1, by rw [y2, g3], mu_same _ _ _ _, ⟨n, Rn_66 hM⟩⟩
      cases hbt : bt' with
      | true =>
        rw [hbt] at eC t2
        rw [if_pos rfl] at eC
        have hba : ba = false := by
          cases ba with
          | false => rfl
          | true => exact absurd (t2.mp rfl) (u2.mp rfl)
        rw [hba, if_neg (by simp)] at eR2
        exact bad3 C T hR eC eR2
      | false =>
        rw [hbt] at eC t2
        rw [if_neg (by simp)] at eC
        have hn : ¬ someT T h (gh.1 2) x := fun z => by have := t2.mpr z; cases this
        have hba : ba = true := u2.mpr hn
        rw [hba, if_pos rfl] at eR2
        obtain ⟨bs', M2, s1, s2, s3⟩ := hR.short (x := x) c2 k1 k2 hh k3 c4 c5 c7 hn
        rw [s1, o2_some] at eR2
        have hRM2 : Rn n gh C M2 := Rn_81 hR ⟨fun _ _ _ _ _ _ => rfl, fun _ _ => rfl, fun _ _ => rfl⟩ ⟨fun q a b c => s2 q (by omega) (by omega), fun i _ => by rw [s2 3 (by omega) (by omega)], fun i _ => by rw [s2 4 (by omega) (by omega)]⟩
        rcases s11_take47 (x := x) hR c2 d3 hn with ⟨M, w1, w2, w3⟩ | ⟨M, w1, w2, w3, w4⟩
        · have hbs : bs' = false := by
            cases bs' with
            | false => rfl
            | true => exact absurd (s3.mp rfl) w3
          rw [hbs, if_neg (by simp)] at eR2
          refine bad3 M M2 ?_ (eC.trans w1) eR2
          exact Rn_81 hRM2 ⟨fun q a b c d e => w2.1 q c d, w2.2.1, w2.2.2⟩ ⟨fun _ _ _ _ => rfl, fun _ _ => rfl, fun _ _ => rfl⟩
        · have hbs : bs' = true := s3.mpr w3
          rw [hbs, if_pos rfl] at eR2
          -- the reference
          have hRU : Rn n gh C (rv_u M2 66 0 0) := Rn_66 hRM2
          have gU : f12_goes M2 0 = some (true, rv_u M2 66 0 0) := rfl
          have uT : ∀ q, q ≠ 62 → q ≠ 63 → q ≠ 66 → (rv_u M2 66 0 0) q = T q := fun q a b c => by rw [mu_ne c, s2 q a b]
          have u66 : (rv_u M2 66 0 0) 66 0 = 0 := mu_same _ _ _ _
          generalize hUe : rv_u M2 66 0 0 = U at hRU gU uT u66
          have eFx : ∀ f, fmd U h (gh.1 2) x f = fmd T h (gh.1 2) x f := fun f => by
            have ev : visq U = visq T := vis_cong (uT 14 (by omega) (by omega) (by omega)) (uT 35 (by omega) (by omega) (by omega)) (uT 36 (by omega) (by omega) (by omega))
            funext p
            unfold fmd fxB chs pos ff fa fk
            rw [ev, uT 37 (by omega) (by omega) (by omega), uT 38 (by omega) (by omega) (by omega), uT 39 (by omega) (by omega) (by omega), uT 40 (by omega) (by omega) (by omega)]
          have eFl : ∀ f, fl U c f = fl T c f := fun f => by
            unfold fl
            rw [uT 3 (by omega) (by omega) (by omega), uT 4 (by omega) (by omega) (by omega)]
          have hnU : ¬ someT U h (gh.1 2) x := fun z => hn (by
            have ev : visq U = visq T := vis_cong (uT 14 (by omega) (by omega) (by omega)) (uT 35 (by omega) (by omega) (by omega)) (uT 36 (by omega) (by omega) (by omega))
            unfold someT chs pos tch ff fa fk at z ⊢
            rw [ev, uT 37 (by omega) (by omega) (by omega), uT 38 (by omega) (by omega) (by omega), uT 39 (by omega) (by omega) (by omega)] at z
            exact z)
          obtain ⟨W, v1, v2, v3⟩ := hRU.take65 (b := b) (x := x) c2 k1 k2 hh (by rw [uT 14 (by omega) (by omega) (by omega)]; exact k3) (by rw [uT 5 (by omega) (by omega) (by omega)]; exact c4) (by rw [uT 6 (by omega) (by omega) (by omega)]; exact c5) (by
            unfold curS at c7 ⊢
            rw [uT 5 (by omega) (by omega) (by omega), uT 6 (by omega) (by omega) (by omega), uT 14 (by omega) (by omega) (by omega)]; exact c7) hnU (by rw [uT 2 (by omega) (by omega) (by omega)]; exact b3) (fun f hf => by rw [eFx, eFl]; exact w3 f hf)
          have v3' : ∀ f, f < 4 → fileR W 80 f (ggd (fmd T h (gh.1 2) x f) (fl T c f)) := fun f hf => by
            have := v3 f hf
            rw [eFx, eFl] at this; exact this
          -- the class
          obtain ⟨C5, p1', p2'⟩ := s9_copyFiles (gh := gh) (C := M) (a := 81) (b := 80) (by omega) (by omega) (by omega) (fun f hf => ⟨_, (w4 f hf).1, (w4 f hf).2.1⟩)
          obtain ⟨q1, q2, q3, q4⟩ := p2'
          obtain ⟨r, r0, r1, -⟩ := (hR.bas.1 b (by omega)).1
          have fC : ∀ q, q ≠ 14 → q ≠ 15 → C5 q = C q := fun q a b => by rw [q1 q a b, w2.1 q a b]
          have hmove : f11_moveDesk gh C5 (nI b) = some (nI r, rv_u (rv_u C5 17 80 (nI b)) 16 80 (nI r)) := by
            unfold f11_moveDesk f9_setDeskBase f9_repositoryOf
            rw [if_pos (show rv_in (80 : Int32) 82 = true from rfl), lt_do, s9_read (L := 82) (show b < 82 by omega) rfl rfl (by omega), o1_some, o1_some, mu_ne (by omega), fC 16 (by omega) (by omega), r1, lt_do, if_pos (show rv_in (80 : Int32) 82 = true from rfl), if_pos (show rv_in (80 : Int32) 82 = true from rfl), o2_some, show (80 : Int32).toNatClampNeg = 80 from rfl, mu_same]
          have hcnt : nI (cn (bt x) 0 32) = nI (cn (bt x) 0 31) := by
            rw [cn_snoc, show 0 + 31 = 31 from rfl, d2.1, if_neg (by simp), Nat.add_zero]
          left
          refine ⟨nI (cn (bt x) 0 31), rv_u (rv_u C5 17 80 (nI b)) 16 80 (nI r), rv_u W 2 80 (nI b), ?_, ?_, ?_, ⟨n, ?_⟩⟩
          · rw [eC, w1, show (81 : Int32) = nI 81 from rfl, show (80 : Int32) = nI 80 from rfl, p1', o1_some]
            unfold f9_baseOf
            rw [s9_read (L := 82) (show c < 82 by omega) rfl rfl (by omega), o1_some, o1_some, fC 17 (by omega) (by omega), b2, hmove, o2_some, sJ_bits, o1_some, hcnt]
          · rw [eR2]
            unfold f12_takeFixes_55
            rw [gU, o2_some, if_neg (by simp), v1]
          · rw [mu_ne (by omega), v2.1 66 (by omega) (by omega) (by omega) (by omega)]; exact u66
          · have sm : ∀ q, q ≤ 52 → q ≠ 3 → q ≠ 4 → W q = T q := fun q a b c => by rw [v2.1 q b c (by omega) (by omega), uT q (by omega) (by omega) (by omega)]
            have hl : ∀ f, f < 4 → ∀ y, y ∈ ggd (fmd T h (gh.1 2) x f) (fl T c f) → ∃ v, v < 400 ∧ y = nI v := fun f hf => ggd_all (fun y hy => by
              obtain ⟨p, hp, e⟩ := List.mem_iff_getElem.mp hy
              obtain ⟨v, v1, v2⟩ := (fil_files hR.fil (Or.inl c2) hf).2.2 p hp
              rw [List.getD_eq_getElem?_getD, List.getElem?_eq_getElem hp] at v2
              exact ⟨v, v1, by rw [← e]; exact v2⟩) (fun k y hy z hz => by
              unfold fmd at hy
              cases hh2 : (List.range (gh.1 2)).find? (fxB T h x f k) with
              | none => rw [hh2] at hy; cases hy
              | some u =>
                rw [hh2] at hy
                have hu := List.mem_range.mp (List.mem_of_find?_eq_some hh2)
                obtain ⟨-, -, -, -, -, -, -, -, -, a10⟩ := hR.fnd1 hu
                have hy : some (fk T u, if T 40 u = NO then [] else [T 40 u]) = some y := hy
                rw [Option.some.injEq] at hy
                subst hy
                have hz : z ∈ (if T 40 u = NO then [] else [T 40 u]) := hz
                by_cases c : T 40 u = NO
                · rw [if_pos c] at hz; cases hz
                · rw [if_neg c, List.mem_singleton] at hz
                  rcases a10 with a | ⟨v, v1, v2⟩
                  · exact absurd a c
                  · exact ⟨v, v1, by rw [hz]; exact v2⟩)
            refine Rn_desk hR (fun q a b c d => by rw [mu_ne c, mu_ne d, fC q a b]) (fun y hy => by rw [mu_ne2 hy, mu_ne (by omega), fC 16 (by omega) (by omega)]) (fun y hy => by rw [mu_ne (by omega), mu_ne2 hy, fC 17 (by omega) (by omega)]) (fun q a b c d => by rw [mu_ne b, sm q a c d]) (fun y hy => by rw [mu_ne2 hy, sm 2 (by omega) (by omega) (by omega)]) (fun i hi => by rw [mu_ne (by omega), v2.2.1 i hi, uT 3 (by omega) (by omega) (by omega)]) (fun i hi => by rw [mu_ne (by omega), v2.2.2 i hi, uT 4 (by omega) (by omega) (by omega)]) ?_ ⟨b, by omega, by rw [mu_ne (by omega), mu_same], mu_same _ _ _ _⟩ (by rw [mu_ne (by omega), v2.1 64 (by omega) (by omega) (by omega) (by omega), uT 64 (by omega) (by omega) (by omega)]; exact hR.h64)
            rw [mu_ne (show 14 ≠ 16 by omega), mu_ne (show 14 ≠ 17 by omega), mu_ne (show 15 ≠ 16 by omega), mu_ne (show 15 ≠ 17 by omega), mu_ne (show 3 ≠ 2 by omega), mu_ne (show 4 ≠ 2 by omega)]
            intro y hy f hf
            by_cases ey : y = 80
            · subst ey
              obtain ⟨x1, x2, x3⟩ := w4 f hf
              obtain ⟨y1, y2, y3⟩ := v3' f hf
              refine ⟨_, x1, by rw [(q4 f hf).1]; exact x2, y2, fun p hp => ?_⟩
              obtain ⟨v, v1, v2⟩ := hl f hf _ (List.getElem_mem hp)
              have e : (ggd (fmd T h (gh.1 2) x f) (fl T c f)).getD p 0 = nI v := by
                rw [List.getD_eq_getElem?_getD, List.getElem?_eq_getElem hp]; exact v2
              exact ⟨v, v1, by rw [(q4 f hf).2 p _ x2 x1 hp, x3 p hp, e], by rw [y3 p hp, e]⟩
            · obtain ⟨z, z1, z2, z3, z4⟩ := hR.fil y (by omega) f hf
              refine ⟨z, z1, by rw [q3 _ (by omega), w2.2.1 _ (by omega)]; exact z2, by rw [v2.2.1 _ (by omega), uT 3 (by omega) (by omega) (by omega)]; exact z3, fun p hp => ?_⟩
              obtain ⟨v, v1, v2', v3'⟩ := z4 p hp
              exact ⟨v, v1, by rw [q2 _ (by omega), w2.2.2 _ (by omega)]; exact v2', by rw [v2.2.2 _ (by omega), uT 4 (by omega) (by omega) (by omega)]; exact v3'⟩
  · right; left
    refine ⟨C, rv_u R 66 0 1, 0, ?_, ?_, mu_same _ _ _ _, ⟨n, Rn_66 hRR⟩⟩
    · unfold f11_takeFixes
      rw [e1]; rfl
    · unfold f12_takeFixes
      rw [e2]; rfl
